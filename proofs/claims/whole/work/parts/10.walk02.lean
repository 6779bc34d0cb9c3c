/-! X4_readJoiner -/
set_option maxRecDepth 20000 in
set_option maxHeartbeats 4000000 in
theorem t_X4_readJoiner_32 {p : Program} {l : Launch} {e : Env} {s : State} {m : MethodId} {args : Array Value} {below : List Frame} {meth : Method} {c : Code} {H : Heap} {locs : List Loc} {D : va_G} {tc : Nat → ClassId} {b0 : Nat} {ls : Array Slot} {G : Lay} {Qx : Int32 → Mem → Prop} {l0 : Nat} {l1 : Int32}  {σ : Mem} (C : Cx p s m args meth c cX4_readJoiner RX4 2 D tc b0) (hr : meth.sig.returnType = (some FieldType.boolean)) (hS : va_S (AA b0) s.heap H locs) (hW : Wd G D tc b0 σ H) (hl : hL b0 ls 2 [some (.inr (.inr l0)), some (.inl l1)]) (h : X_X4_readJoiner_32 G Qx l0 l1  σ) : W p l e rm_X4_readJoiner s m args below meth c H locs 0 0 (MQ below (va_Qi Qx (fun u t => Pw G D tc b0 u t) (AA b0)) args s 0 0 (AA b0)) (F0 m 32 ls []) := by
  have hx := C.1
  have hb := C.2.1
  unfold X_X4_readJoiner_32 at h
  refine x_aload_n C hl dX4_readJoiner_32 rfl ?_
  refine x_iload_n C hl dX4_readJoiner_33 rfl ?_
  have t1 := h.1
  replace h := h.2
  refine y_v (x_run (As := [.int l1]) C hW hS (T_X4_joinDown l l0 l1 σ _ h) t1 kl_4 (CW.of yv_X4_joinDown ml_X4_87) ⟨rfl, rfl, ⟨by decide, by decide⟩, by decide, by decide⟩ rfl hl.1 rfl (by decide) dX4_readJoiner_34) hS (fun s2 H locs h hW hS => ?_)
  refine x_aload_n C hl dX4_readJoiner_37 rfl ?_
  refine x_iload_n C hl dX4_readJoiner_38 rfl ?_
  refine y_v (x_run (As := [.int l1]) C hW hS (T_X4_push l l0 l1 s2 _ h) t1 kl_4 (CW.of yv_X4_push ml_X4_97) ⟨rfl, rfl, ⟨by decide, by decide⟩, by decide, by decide⟩ rfl hl.1 rfl (by decide) dX4_readJoiner_39) hS (fun s3 H locs h hW hS => ?_)
  refine lv_iconst (v := (1 : Int32)) hx hb dX4_readJoiner_42 (by decide) ?_
  exact r_z C hr hW hS h.1 h.2 dX4_readJoiner_43
set_option maxRecDepth 20000 in
set_option maxHeartbeats 4000000 in
theorem t_X4_readJoiner_0 {p : Program} {l : Launch} {e : Env} {s : State} {m : MethodId} {args : Array Value} {below : List Frame} {meth : Method} {c : Code} {H : Heap} {locs : List Loc} {D : va_G} {tc : Nat → ClassId} {b0 : Nat} {ls : Array Slot} {G : Lay} {Qx : Int32 → Mem → Prop} {l0 : Nat}  {σ : Mem} (C : Cx p s m args meth c cX4_readJoiner RX4 2 D tc b0) (hr : meth.sig.returnType = (some FieldType.boolean)) (hS : va_S (AA b0) s.heap H locs) (hW : Wd G D tc b0 σ H) (hl : hL b0 ls 2 [some (.inr (.inr l0)), none]) (h : X_X4_readJoiner_0 G Qx l0  σ) : W p l e rm_X4_readJoiner s m args below meth c H locs 0 0 (MQ below (va_Qi Qx (fun u t => Pw G D tc b0 u t) (AA b0)) args s 0 0 (AA b0)) (F0 m 0 ls []) := by
  have hx := C.1
  have hb := C.2.1
  unfold X_X4_readJoiner_0 at h
  refine lv_iconst (v := (1 : Int32)) hx hb dX4_readJoiner_0 (by decide) ?_
  refine x_istore_n C hl dX4_readJoiner_1 (by decide) rfl (fun ls hl => ?_)
  refine x_aload_n C hl dX4_readJoiner_2 rfl ?_
  have t1 := h.1
  replace h := h.2
  refine x_get C hW (t := 4) (k := 0) t1 kl_4 (by decide) fl_X4_15 (v := rv b0 (mR σ l0 0)) rfl dX4_readJoiner_3 ?_
  refine lv_ldc2 (own := RX4) (v := (6385252 : Int64)) hx hb C.2.2.2.1 (C.2.2.2.2.1 _ (gc6 184 rfl rfl)) dX4_readJoiner_6 ?_
  have t2 := h.1
  replace h := h.2
  refine y_i (x_run (As := [.long (6385252 : Int64)]) C hW hS (T_X8_takes l (mR σ l0 0) (6385252 : Int64) σ _ h) t2 kl_8 (CW.of yv_X8_takes ml_X4_111) ⟨rfl, rfl, ⟨by decide, by decide⟩, by decide, by decide⟩ rfl hl.1 rfl (by decide) dX4_readJoiner_9) hS (fun w4 s3 H locs h hW hS => ?_)
  refine lv_if_ne hx hb dX4_readJoiner_12 (tgt := 32) rfl (fun hc => ?_) (fun hc => ?_)
  · replace h := h.2 hc
    exact t_X4_readJoiner_32 C hr hS hW (hl.keep [true, true] rfl) h
  · replace h := h.1 hc
    refine x_aload_n C hl dX4_readJoiner_15 rfl ?_
    refine x_get C hW (t := 4) (k := 0) t1 kl_4 (by decide) fl_X4_15 (v := rv b0 (mR s3 l0 0)) rfl dX4_readJoiner_16 ?_
    refine lv_ldc2 (own := RX4) (v := (28530 : Int64)) hx hb C.2.2.2.1 (C.2.2.2.2.1 _ (gc6 185 rfl rfl)) dX4_readJoiner_19 ?_
    have t5 := h.1
    replace h := h.2
    refine y_i (x_run (As := [.long (28530 : Int64)]) C hW hS (T_X8_expects l (mR s3 l0 0) (28530 : Int64) s3 _ h) t5 kl_8 (CW.of yv_X8_expects ml_X4_64) ⟨rfl, rfl, ⟨by decide, by decide⟩, by decide, by decide⟩ rfl hl.1 rfl (by decide) dX4_readJoiner_22) hS (fun w7 s6 H locs h hW hS => ?_)
    refine lv_if_ne hx hb dX4_readJoiner_25 (tgt := 30) rfl (fun hc => ?_) (fun hc => ?_)
    · replace h := h.2 hc
      refine lv_iconst (v := (2 : Int32)) hx hb dX4_readJoiner_30 (by decide) ?_
      refine x_istore_n C hl dX4_readJoiner_31 (by decide) rfl (fun ls hl => ?_)
      exact t_X4_readJoiner_32 C hr hS hW (hl.keep [true, true] rfl) h
    · replace h := h.1 hc
      refine lv_iconst (v := (0 : Int32)) hx hb dX4_readJoiner_28 (by decide) ?_
      exact r_z C hr hW hS h.1 h.2 dX4_readJoiner_29
theorem T_X4_readJoiner (l : Launch) {G : Lay} {D : va_G} {tc : Nat → ClassId} {b0 : Nat} (l0 : Nat) (σ : Mem) (Qx : Int32 → Mem → Prop) (h : X_X4_readJoiner G Qx l0 σ) : MI l yX4_readJoiner cX4_readJoiner 2 ((some FieldType.boolean)) rm_X4_readJoiner G D tc b0 [rv b0 l0] σ Qx :=
  x_entry (y := yX4_readJoiner) [.inr (.inr l0)] 1 (by decide) (Nat.le_of_ble_eq_true rfl) (fun p e s m args below meth c ls C hr hW hl => t_X4_readJoiner_0 C hr va_S.rf hW (hl.keep [true, false] rfl) h)
/-! X4_readTerms -/
set_option maxRecDepth 20000 in
set_option maxHeartbeats 4000000 in
theorem t_X4_readTerms_33 {p : Program} {l : Launch} {e : Env} {s : State} {m : MethodId} {args : Array Value} {below : List Frame} {meth : Method} {c : Code} {H : Heap} {locs : List Loc} {D : va_G} {tc : Nat → ClassId} {b0 : Nat} {ls : Array Slot} {G : Lay} {Qx : Int32 → Mem → Prop}   {σ : Mem} (C : Cx p s m args meth c cX4_readTerms RX4 2 D tc b0) (hr : meth.sig.returnType = (some FieldType.boolean)) (hS : va_S (AA b0) s.heap H locs) (hW : Wd G D tc b0 σ H) (hl : hL b0 ls 2 [none, none]) (h : X_X4_readTerms_33 G Qx   σ) : W p l e rm_X4_readTerms s m args below meth c H locs 0 0 (MQ below (va_Qi Qx (fun u t => Pw G D tc b0 u t) (AA b0)) args s 0 0 (AA b0)) (F0 m 33 ls []) := by
  have hx := C.1
  have hb := C.2.1
  unfold X_X4_readTerms_33 at h
  refine lv_iconst (v := (0 : Int32)) hx hb dX4_readTerms_33 (by decide) ?_
  exact r_z C hr hW hS h.1 h.2 dX4_readTerms_34
set_option maxRecDepth 20000 in
set_option maxHeartbeats 4000000 in
theorem t_X4_readTerms_81 {p : Program} {l : Launch} {e : Env} {s : State} {m : MethodId} {args : Array Value} {below : List Frame} {meth : Method} {c : Code} {H : Heap} {locs : List Loc} {D : va_G} {tc : Nat → ClassId} {b0 : Nat} {ls : Array Slot} {G : Lay} {Qx : Int32 → Mem → Prop}  {k0 : Int32} {σ : Mem} (C : Cx p s m args meth c cX4_readTerms RX4 2 D tc b0) (hr : meth.sig.returnType = (some FieldType.boolean)) (hS : va_S (AA b0) s.heap H locs) (hW : Wd G D tc b0 σ H) (hl : hL b0 ls 2 [none, none]) (h : X_X4_readTerms_81 G Qx  k0 σ) : W p l e rm_X4_readTerms s m args below meth c H locs 0 0 (MQ below (va_Qi Qx (fun u t => Pw G D tc b0 u t) (AA b0)) args s 0 0 (AA b0)) (F0 m 81 ls [.int k0]) := by
  have hx := C.1
  have hb := C.2.1
  unfold X_X4_readTerms_81 at h
  exact r_z C hr hW hS h.1 h.2 dX4_readTerms_81
set_option maxRecDepth 20000 in
set_option maxHeartbeats 4000000 in
theorem t_X4_readTerms_76 {p : Program} {l : Launch} {e : Env} {s : State} {m : MethodId} {args : Array Value} {below : List Frame} {meth : Method} {c : Code} {H : Heap} {locs : List Loc} {D : va_G} {tc : Nat → ClassId} {b0 : Nat} {ls : Array Slot} {G : Lay} {Qx : Int32 → Mem → Prop}   {σ : Mem} (C : Cx p s m args meth c cX4_readTerms RX4 2 D tc b0) (hr : meth.sig.returnType = (some FieldType.boolean)) (hS : va_S (AA b0) s.heap H locs) (hW : Wd G D tc b0 σ H) (hl : hL b0 ls 2 [none, none]) (h : X_X4_readTerms_76 G Qx   σ) : W p l e rm_X4_readTerms s m args below meth c H locs 0 0 (MQ below (va_Qi Qx (fun u t => Pw G D tc b0 u t) (AA b0)) args s 0 0 (AA b0)) (F0 m 76 ls []) := by
  have hx := C.1
  have hb := C.2.1
  unfold X_X4_readTerms_76 at h
  refine lv_iconst (v := (1 : Int32)) hx hb dX4_readTerms_76 (by decide) ?_
  refine lv_goto hx hb dX4_readTerms_77 (tgt := 81) rfl ?_
  exact t_X4_readTerms_81 C hr hS hW (hl.keep [false, false] rfl) h
set_option maxRecDepth 20000 in
set_option maxHeartbeats 4000000 in
theorem t_X4_readTerms_12_n {p : Program} {l : Launch} {e : Env} {s : State} {m : MethodId} {args : Array Value} {below : List Frame} {meth : Method} {c : Code} {D : va_G} {tc : Nat → ClassId} {b0 : Nat} {G : Lay} {Qx : Int32 → Mem → Prop} {l0 : Nat} (C : Cx p s m args meth c cX4_readTerms RX4 2 D tc b0) (hr : meth.sig.returnType = (some FieldType.boolean)) (n : Nat) : ∀ (l1 : Int32) (σ : Mem) (H : Heap) (locs : List Loc) (ls : Array Slot), va_S (AA b0) s.heap H locs → Wd G D tc b0 σ H → hL b0 ls 2 [some (.inr (.inr l0)), some (.inl l1)] → Lp (X_X4_readTerms_12_s G Qx l0) n (l1, σ) → W p l e rm_X4_readTerms s m args below meth c H locs 0 0 (MQ below (va_Qi Qx (fun u t => Pw G D tc b0 u t) (AA b0)) args s 0 0 (AA b0)) (F0 m 12 ls []) := by
  have hx := C.1
  have hb := C.2.1
  induction n with
  | zero => intro l1 σ H locs ls hS hW hl h; exact False.elim h
  | succ n hK12 =>
    intro l1 σ H locs ls hS hW hl h
    replace h : X_X4_readTerms_12_s G Qx l0 (Lp (X_X4_readTerms_12_s G Qx l0) n) (l1, σ) := h
    unfold X_X4_readTerms_12_s at h
    refine x_iload_n C hl dX4_readTerms_12 rfl ?_
    refine lv_sipush (v := (3000 : Int32)) hx hb dX4_readTerms_13 (by decide) ?_
    refine lv_icmp_gt hx hb dX4_readTerms_16 (tgt := 97) rfl (fun hc => ?_) (fun hc => ?_)
    · replace h := h.1 hc
      refine x_aload_n C hl dX4_readTerms_97 rfl ?_
      have t1 := h.1
      replace h := h.2
      refine x_get C hW (t := 4) (k := 0) t1 kl_4 (by decide) fl_X4_15 (v := rv b0 (mR σ l0 0)) rfl dX4_readTerms_98 ?_
      have t2 := h.1
      replace h := h.2
      refine y_i (x_run (As := []) C hW hS (T_X8_misplaced l (mR σ l0 0) σ _ h) t2 kl_8 (CW.of yv_X8_misplaced ml_X4_33) ⟨rfl, rfl, ⟨by decide, by decide⟩, by decide, by decide⟩ rfl hl.1 rfl (by decide) dX4_readTerms_101) hS (fun w4 s3 H locs h hW hS => ?_)
      exact r_z C hr hW hS h.1 h.2 dX4_readTerms_104
    · replace h := h.2 hc
      refine x_aload_n C hl dX4_readTerms_19 rfl ?_
      have t5 := h.1
      replace h := h.2
      refine y_i (x_run (As := []) C hW hS (T_X4_readOpenings l l0 σ _ h) t5 kl_4 (CW.of yv_X4_readOpenings ml_X4_78) ⟨rfl, rfl, ⟨by decide, by decide⟩, by decide, by decide⟩ rfl hl.1 rfl (by decide) dX4_readTerms_20) hS (fun w7 s6 H locs h hW hS => ?_)
      refine lv_if_eq hx hb dX4_readTerms_23 (tgt := 33) rfl (fun hc => ?_) (fun hc => ?_)
      · replace h := h.1 hc
        exact t_X4_readTerms_33 C hr hS hW (hl.keep [false, false] rfl) h
      · replace h := h.2 hc
        refine x_aload_n C hl dX4_readTerms_26 rfl ?_
        refine y_i (x_run (As := []) C hW hS (T_X4_readTerm l l0 s6 _ h) t5 kl_4 (CW.of yv_X4_readTerm ml_X4_81) ⟨rfl, rfl, ⟨by decide, by decide⟩, by decide, by decide⟩ rfl hl.1 rfl (by decide) dX4_readTerms_27) hS (fun w9 s8 H locs h hW hS => ?_)
        refine lv_if_ne hx hb dX4_readTerms_30 (tgt := 35) rfl (fun hc => ?_) (fun hc => ?_)
        · replace h := h.2 hc
          refine x_aload_n C hl dX4_readTerms_35 rfl ?_
          refine y_i (x_run (As := []) C hW hS (T_X4_readClosings l l0 s8 _ h) t5 kl_4 (CW.of yv_X4_readClosings ml_X4_84) ⟨rfl, rfl, ⟨by decide, by decide⟩, by decide, by decide⟩ rfl hl.1 rfl (by decide) dX4_readTerms_36) hS (fun w11 s10 H locs h hW hS => ?_)
          refine lv_if_ne hx hb dX4_readTerms_39 (tgt := 44) rfl (fun hc => ?_) (fun hc => ?_)
          · replace h := h.2 hc
            refine x_aload_n C hl dX4_readTerms_44 rfl ?_
            refine x_get C hW (t := 4) (k := 0) t5 kl_4 (by decide) fl_X4_15 (v := rv b0 (mR s10 l0 0)) rfl dX4_readTerms_45 ?_
            have t12 := h.1
            replace h := h.2
            refine y_i (x_run (As := []) C hW hS (T_X8_isEnd l (mR s10 l0 0) s10 _ h) t12 kl_8 (CW.of yv_X8_isEnd ml_X4_59) ⟨rfl, rfl, ⟨by decide, by decide⟩, by decide, by decide⟩ rfl hl.1 rfl (by decide) dX4_readTerms_48) hS (fun w14 s13 H locs h hW hS => ?_)
            refine lv_if_eq hx hb dX4_readTerms_51 (tgt := 82) rfl (fun hc => ?_) (fun hc => ?_)
            · replace h := h.1 hc
              refine x_aload_n C hl dX4_readTerms_82 rfl ?_
              refine y_i (x_run (As := []) C hW hS (T_X4_readJoiner l l0 s13 _ h) t5 kl_4 (CW.of yv_X4_readJoiner ml_X4_90) ⟨rfl, rfl, ⟨by decide, by decide⟩, by decide, by decide⟩ rfl hl.1 rfl (by decide) dX4_readTerms_83) hS (fun w16 s15 H locs h hW hS => ?_)
              refine lv_if_ne hx hb dX4_readTerms_86 (tgt := 91) rfl (fun hc => ?_) (fun hc => ?_)
              · replace h := h.2 hc
                refine x_iinc C hl dX4_readTerms_91 rfl (v := (1 : Int32)) (by decide) (by decide) rfl (fun ls hl => ?_)
                refine lv_goto hx hb dX4_readTerms_94 (tgt := 12) rfl ?_
                exact hK12 _ _ _ _ _ hS hW (hl.keep [true, true] rfl) h
              · replace h := h.1 hc
                refine lv_iconst (v := (0 : Int32)) hx hb dX4_readTerms_89 (by decide) ?_
                exact r_z C hr hW hS h.1 h.2 dX4_readTerms_90
            · replace h := h.2 hc
              refine x_aload_n C hl dX4_readTerms_54 rfl ?_
              refine lv_iconst (v := (2 : Int32)) hx hb dX4_readTerms_55 (by decide) ?_
              refine y_v (x_run (As := [.int (2 : Int32)]) C hW hS (T_X4_joinDown l l0 (2 : Int32) s13 _ h) t5 kl_4 (CW.of yv_X4_joinDown ml_X4_87) ⟨rfl, rfl, ⟨by decide, by decide⟩, by decide, by decide⟩ rfl hl.1 rfl (by decide) dX4_readTerms_56) hS (fun s17 H locs h hW hS => ?_)
              refine x_aload_n C hl dX4_readTerms_59 rfl ?_
              refine x_get C hW (t := 4) (k := 4) t5 kl_4 (by decide) fl_X4_71 (v := .int (mI s17 l0 4)) rfl dX4_readTerms_60 ?_
              refine lv_if_eq hx hb dX4_readTerms_63 (tgt := 76) rfl (fun hc => ?_) (fun hc => ?_)
              · replace h := h.1 hc
                exact t_X4_readTerms_76 C hr hS hW (hl.keep [false, false] rfl) h
              · replace h := h.2 hc
                refine x_aload_n C hl dX4_readTerms_66 rfl ?_
                refine x_get C hW (t := 4) (k := 0) t5 kl_4 (by decide) fl_X4_15 (v := rv b0 (mR s17 l0 0)) rfl dX4_readTerms_67 ?_
                have t18 := h.1
                replace h := h.2
                refine y_i (x_run (As := []) C hW hS (T_X8_misplaced l (mR s17 l0 0) s17 _ h) t18 kl_8 (CW.of yv_X8_misplaced ml_X4_33) ⟨rfl, rfl, ⟨by decide, by decide⟩, by decide, by decide⟩ rfl hl.1 rfl (by decide) dX4_readTerms_70) hS (fun w20 s19 H locs h hW hS => ?_)
                refine lv_if_eq hx hb dX4_readTerms_73 (tgt := 80) rfl (fun hc => ?_) (fun hc => ?_)
                · replace h := h.1 hc
                  refine lv_iconst (v := (0 : Int32)) hx hb dX4_readTerms_80 (by decide) ?_
                  exact t_X4_readTerms_81 C hr hS hW (hl.keep [false, false] rfl) h
                · replace h := h.2 hc
                  exact t_X4_readTerms_76 C hr hS hW (hl.keep [false, false] rfl) h
          · replace h := h.1 hc
            refine lv_iconst (v := (0 : Int32)) hx hb dX4_readTerms_42 (by decide) ?_
            exact r_z C hr hW hS h.1 h.2 dX4_readTerms_43
        · replace h := h.1 hc
          exact t_X4_readTerms_33 C hr hS hW (hl.keep [false, false] rfl) h
set_option maxRecDepth 20000 in
set_option maxHeartbeats 4000000 in
theorem t_X4_readTerms_12 {p : Program} {l : Launch} {e : Env} {s : State} {m : MethodId} {args : Array Value} {below : List Frame} {meth : Method} {c : Code} {H : Heap} {locs : List Loc} {D : va_G} {tc : Nat → ClassId} {b0 : Nat} {ls : Array Slot} {G : Lay} {Qx : Int32 → Mem → Prop} {l0 : Nat} {l1 : Int32}  {σ : Mem} (C : Cx p s m args meth c cX4_readTerms RX4 2 D tc b0) (hr : meth.sig.returnType = (some FieldType.boolean)) (hS : va_S (AA b0) s.heap H locs) (hW : Wd G D tc b0 σ H) (hl : hL b0 ls 2 [some (.inr (.inr l0)), some (.inl l1)]) (h : X_X4_readTerms_12 G Qx l0 l1 σ) : W p l e rm_X4_readTerms s m args below meth c H locs 0 0 (MQ below (va_Qi Qx (fun u t => Pw G D tc b0 u t) (AA b0)) args s 0 0 (AA b0)) (F0 m 12 ls []) := by
  obtain ⟨n, h⟩ := h
  exact t_X4_readTerms_12_n C hr n l1 σ H locs ls hS hW hl h
set_option maxRecDepth 20000 in
set_option maxHeartbeats 4000000 in
theorem t_X4_readTerms_0 {p : Program} {l : Launch} {e : Env} {s : State} {m : MethodId} {args : Array Value} {below : List Frame} {meth : Method} {c : Code} {H : Heap} {locs : List Loc} {D : va_G} {tc : Nat → ClassId} {b0 : Nat} {ls : Array Slot} {G : Lay} {Qx : Int32 → Mem → Prop} {l0 : Nat}  {σ : Mem} (C : Cx p s m args meth c cX4_readTerms RX4 2 D tc b0) (hr : meth.sig.returnType = (some FieldType.boolean)) (hS : va_S (AA b0) s.heap H locs) (hW : Wd G D tc b0 σ H) (hl : hL b0 ls 2 [some (.inr (.inr l0)), none]) (h : X_X4_readTerms_0 G Qx l0  σ) : W p l e rm_X4_readTerms s m args below meth c H locs 0 0 (MQ below (va_Qi Qx (fun u t => Pw G D tc b0 u t) (AA b0)) args s 0 0 (AA b0)) (F0 m 0 ls []) := by
  have hx := C.1
  have hb := C.2.1
  unfold X_X4_readTerms_0 at h
  refine x_aload_n C hl dX4_readTerms_0 rfl ?_
  refine lv_iconst (v := (0 : Int32)) hx hb dX4_readTerms_1 (by decide) ?_
  have t1 := h.1
  replace h := h.2
  refine x_putI C hW hS (t := 4) (k := 4) t1 kl_4 (by decide) fl_X4_71 rfl rfl rfl rfl dX4_readTerms_2 (fun H locs hW hS => ?_)
  obtain ⟨s2, e_s2⟩ : ∃ z : Mem, z = (sI σ l0 4 (0 : Int32)) := ⟨_, rfl⟩
  replace h := h s2 e_s2
  replace hW : Wd G D tc b0 s2 H := by rw [e_s2]; exact hW
  refine x_aload_n C hl dX4_readTerms_5 rfl ?_
  refine lv_iconst (v := (0 : Int32)) hx hb dX4_readTerms_6 (by decide) ?_
  refine x_putI C hW hS (t := 4) (k := 5) t1 kl_4 (by decide) fl_X4_75 rfl rfl rfl rfl dX4_readTerms_7 (fun H locs hW hS => ?_)
  obtain ⟨s3, e_s3⟩ : ∃ z : Mem, z = (sI s2 l0 5 (0 : Int32)) := ⟨_, rfl⟩
  replace h := h s3 e_s3
  replace hW : Wd G D tc b0 s3 H := by rw [e_s3]; exact hW
  refine lv_iconst (v := (0 : Int32)) hx hb dX4_readTerms_10 (by decide) ?_
  refine x_istore_n C hl dX4_readTerms_11 (by decide) rfl (fun ls hl => ?_)
  exact t_X4_readTerms_12 C hr hS hW (hl.keep [true, true] rfl) h
theorem T_X4_readTerms (l : Launch) {G : Lay} {D : va_G} {tc : Nat → ClassId} {b0 : Nat} (l0 : Nat) (σ : Mem) (Qx : Int32 → Mem → Prop) (h : X_X4_readTerms G Qx l0 σ) : MI l yX4_readTerms cX4_readTerms 2 ((some FieldType.boolean)) rm_X4_readTerms G D tc b0 [rv b0 l0] σ Qx :=
  x_entry (y := yX4_readTerms) [.inr (.inr l0)] 1 (by decide) (Nat.le_of_ble_eq_true rfl) (fun p e s m args below meth c ls C hr hW hl => t_X4_readTerms_0 C hr va_S.rf hW (hl.keep [true, false] rfl) h)
/-! X4_readQuestion -/
set_option maxRecDepth 20000 in
set_option maxHeartbeats 4000000 in
theorem t_X4_readQuestion_104 {p : Program} {l : Launch} {e : Env} {s : State} {m : MethodId} {args : Array Value} {below : List Frame} {meth : Method} {c : Code} {H : Heap} {locs : List Loc} {D : va_G} {tc : Nat → ClassId} {b0 : Nat} {ls : Array Slot} {G : Lay} {Qx : Int32 → Mem → Prop}  {k0 : Int32} {σ : Mem} (C : Cx p s m args meth c cX4_readQuestion RX4 3 D tc b0) (hr : meth.sig.returnType = (some FieldType.boolean)) (hS : va_S (AA b0) s.heap H locs) (hW : Wd G D tc b0 σ H) (hl : hL b0 ls 3 [none, none, none]) (h : X_X4_readQuestion_104 G Qx  k0 σ) : W p l e rm_X4_readQuestion s m args below meth c H locs 0 0 (MQ below (va_Qi Qx (fun u t => Pw G D tc b0 u t) (AA b0)) args s 0 0 (AA b0)) (F0 m 104 ls [.int k0]) := by
  have hx := C.1
  have hb := C.2.1
  unfold X_X4_readQuestion_104 at h
  exact r_z C hr hW hS h.1 h.2 dX4_readQuestion_104
set_option maxRecDepth 20000 in
set_option maxHeartbeats 4000000 in
theorem t_X4_readQuestion_103 {p : Program} {l : Launch} {e : Env} {s : State} {m : MethodId} {args : Array Value} {below : List Frame} {meth : Method} {c : Code} {H : Heap} {locs : List Loc} {D : va_G} {tc : Nat → ClassId} {b0 : Nat} {ls : Array Slot} {G : Lay} {Qx : Int32 → Mem → Prop}   {σ : Mem} (C : Cx p s m args meth c cX4_readQuestion RX4 3 D tc b0) (hr : meth.sig.returnType = (some FieldType.boolean)) (hS : va_S (AA b0) s.heap H locs) (hW : Wd G D tc b0 σ H) (hl : hL b0 ls 3 [none, none, none]) (h : X_X4_readQuestion_103 G Qx   σ) : W p l e rm_X4_readQuestion s m args below meth c H locs 0 0 (MQ below (va_Qi Qx (fun u t => Pw G D tc b0 u t) (AA b0)) args s 0 0 (AA b0)) (F0 m 103 ls []) := by
  have hx := C.1
  have hb := C.2.1
  unfold X_X4_readQuestion_103 at h
  refine lv_iconst (v := (0 : Int32)) hx hb dX4_readQuestion_103 (by decide) ?_
  exact t_X4_readQuestion_104 C hr hS hW (hl.keep [false, false, false] rfl) h
set_option maxRecDepth 20000 in
set_option maxHeartbeats 4000000 in
theorem t_X4_readQuestion_0 {p : Program} {l : Launch} {e : Env} {s : State} {m : MethodId} {args : Array Value} {below : List Frame} {meth : Method} {c : Code} {H : Heap} {locs : List Loc} {D : va_G} {tc : Nat → ClassId} {b0 : Nat} {ls : Array Slot} {G : Lay} {Qx : Int32 → Mem → Prop} {l0 : Nat} {l1 : Nat}  {σ : Mem} (C : Cx p s m args meth c cX4_readQuestion RX4 3 D tc b0) (hr : meth.sig.returnType = (some FieldType.boolean)) (hS : va_S (AA b0) s.heap H locs) (hW : Wd G D tc b0 σ H) (hl : hL b0 ls 3 [some (.inr (.inr l0)), some (.inr (.inr l1)), none]) (h : X_X4_readQuestion_0 G Qx l0 l1  σ) : W p l e rm_X4_readQuestion s m args below meth c H locs 0 0 (MQ below (va_Qi Qx (fun u t => Pw G D tc b0 u t) (AA b0)) args s 0 0 (AA b0)) (F0 m 0 ls []) := by
  have hx := C.1
  have hb := C.2.1
  unfold X_X4_readQuestion_0 at h
  refine x_aload_n C hl dX4_readQuestion_0 rfl ?_
  refine x_aload_n C hl dX4_readQuestion_1 rfl ?_
  have t1 := h.1
  replace h := h.2
  refine x_putR C hW hS (t := 4) (k := 2) t1 kl_4 (by decide) fl_X4_23 rfl rfl (fun o => by cases o <;> rfl) (fun o => by cases o <;> rfl) dX4_readQuestion_2 (fun H locs hW hS => ?_)
  obtain ⟨s2, e_s2⟩ : ∃ z : Mem, z = (sR σ l0 2 l1) := ⟨_, rfl⟩
  replace h := h s2 e_s2
  replace hW : Wd G D tc b0 s2 H := by rw [e_s2]; exact hW
  refine x_aload_n C hl dX4_readQuestion_5 rfl ?_
  refine x_get C hW (t := 4) (k := 0) t1 kl_4 (by decide) fl_X4_15 (v := rv b0 (mR s2 l0 0)) rfl dX4_readQuestion_6 ?_
  have t3 := h.1
  replace h := h.2
  refine y_i (x_run (As := []) C hW hS (T_X8_isName l (mR s2 l0 0) s2 _ h) t3 kl_8 (CW.of yv_X8_isName ml_X4_27) ⟨rfl, rfl, ⟨by decide, by decide⟩, by decide, by decide⟩ rfl hl.1 rfl (by decide) dX4_readQuestion_9) hS (fun w5 s4 H locs h hW hS => ?_)
  refine lv_if_ne hx hb dX4_readQuestion_12 (tgt := 23) rfl (fun hc => ?_) (fun hc => ?_)
  · replace h := h.2 hc
    refine x_aload_n C hl dX4_readQuestion_23 rfl ?_
    refine x_get C hW (t := 4) (k := 2) t1 kl_4 (by decide) fl_X4_23 (v := rv b0 (mR s4 l0 2)) rfl dX4_readQuestion_24 ?_
    refine x_aload_n C hl dX4_readQuestion_27 rfl ?_
    refine x_get C hW (t := 4) (k := 0) t1 kl_4 (by decide) fl_X4_15 (v := rv b0 (mR s4 l0 0)) rfl dX4_readQuestion_28 ?_
    have t6 := h.1
    replace h := h.2
    refine y_l (x_run (As := []) C hW hS (T_X8_word l (mR s4 l0 0) s4 _ h) t6 kl_8 (CW.of yv_X8_word ml_X4_36) ⟨rfl, rfl, ⟨by decide, by decide⟩, by decide, by decide⟩ rfl hl.1 rfl (by simp [rv_cat, cat_i, cat_l]) dX4_readQuestion_31) hS (fun w8 s7 H locs h hW hS => ?_)
    have t9 := h.1
    replace h := h.2
    refine y_i (x_run (As := [.long w8]) C hW hS (T_X6_classNamed l (mR s4 l0 2) w8 s7 _ h) t9 kl_6 (CW.of yv_X6_classNamed ml_X4_40) ⟨rfl, rfl, ⟨by decide, by decide⟩, by decide, by decide⟩ rfl hl.1 rfl (by decide) dX4_readQuestion_34) hS (fun w11 s10 H locs h hW hS => ?_)
    refine x_istore_n C hl dX4_readQuestion_37 (by decide) rfl (fun ls hl => ?_)
    refine x_iload_n C hl dX4_readQuestion_38 rfl ?_
    refine lv_iconst (v := (-1 : Int32)) hx hb dX4_readQuestion_39 (by decide) ?_
    refine lv_icmp_ne hx hb dX4_readQuestion_40 (tgt := 52) rfl (fun hc => ?_) (fun hc => ?_)
    · replace h := h.2 hc
      refine x_aload_n C hl dX4_readQuestion_52 rfl ?_
      refine x_get C hW (t := 4) (k := 1) t1 kl_4 (by decide) fl_X4_19 (v := rv b0 (mR s10 l0 1)) rfl dX4_readQuestion_53 ?_
      refine x_iload_n C hl dX4_readQuestion_56 rfl ?_
      have t12 := h.1
      replace h := h.2
      refine y_v (x_run (As := [.int w11]) C hW hS (T_X3_begin l (mR s10 l0 1) w11 s10 _ h) t12 kl_3 (CW.of yv_X3_begin ml_X4_50) ⟨rfl, rfl, ⟨by decide, by decide⟩, by decide, by decide⟩ rfl hl.1 rfl (by decide) dX4_readQuestion_57) hS (fun s13 H locs h hW hS => ?_)
      refine x_aload_n C hl dX4_readQuestion_60 rfl ?_
      refine x_get C hW (t := 4) (k := 0) t1 kl_4 (by decide) fl_X4_15 (v := rv b0 (mR s13 l0 0)) rfl dX4_readQuestion_61 ?_
      have t14 := h.1
      replace h := h.2
      refine y_v (x_run (As := []) C hW hS (T_X8_pass l (mR s13 l0 0) s13 _ h) t14 kl_8 (CW.of yv_X8_pass ml_X4_56) ⟨rfl, rfl, ⟨by decide, by decide⟩, by decide, by decide⟩ rfl hl.1 rfl (by decide) dX4_readQuestion_64) hS (fun s15 H locs h hW hS => ?_)
      refine x_aload_n C hl dX4_readQuestion_67 rfl ?_
      refine x_get C hW (t := 4) (k := 0) t1 kl_4 (by decide) fl_X4_15 (v := rv b0 (mR s15 l0 0)) rfl dX4_readQuestion_68 ?_
      have t16 := h.1
      replace h := h.2
      refine y_i (x_run (As := []) C hW hS (T_X8_isEnd l (mR s15 l0 0) s15 _ h) t16 kl_8 (CW.of yv_X8_isEnd ml_X4_59) ⟨rfl, rfl, ⟨by decide, by decide⟩, by decide, by decide⟩ rfl hl.1 rfl (by decide) dX4_readQuestion_71) hS (fun w18 s17 H locs h hW hS => ?_)
      refine lv_if_eq hx hb dX4_readQuestion_74 (tgt := 79) rfl (fun hc => ?_) (fun hc => ?_)
      · replace h := h.1 hc
        refine x_aload_n C hl dX4_readQuestion_79 rfl ?_
        refine x_get C hW (t := 4) (k := 0) t1 kl_4 (by decide) fl_X4_15 (v := rv b0 (mR s17 l0 0)) rfl dX4_readQuestion_80 ?_
        refine lv_ldc2 (own := RX4) (v := (512852587109 : Int64)) hx hb C.2.2.2.1 (C.2.2.2.2.1 _ (gc6 106 rfl rfl)) dX4_readQuestion_83 ?_
        have t19 := h.1
        replace h := h.2
        refine y_i (x_run (As := [.long (512852587109 : Int64)]) C hW hS (T_X8_expects l (mR s17 l0 0) (512852587109 : Int64) s17 _ h) t19 kl_8 (CW.of yv_X8_expects ml_X4_64) ⟨rfl, rfl, ⟨by decide, by decide⟩, by decide, by decide⟩ rfl hl.1 rfl (by decide) dX4_readQuestion_86) hS (fun w21 s20 H locs h hW hS => ?_)
        refine lv_if_eq hx hb dX4_readQuestion_89 (tgt := 103) rfl (fun hc => ?_) (fun hc => ?_)
        · replace h := h.1 hc
          exact t_X4_readQuestion_103 C hr hS hW (hl.keep [false, false, false] rfl) h
        · replace h := h.2 hc
          refine x_aload_n C hl dX4_readQuestion_92 rfl ?_
          refine y_i (x_run (As := []) C hW hS (T_X4_readTerms l l0 s20 _ h) t1 kl_4 (CW.of yv_X4_readTerms ml_X4_68) ⟨rfl, rfl, ⟨by decide, by decide⟩, by decide, by decide⟩ rfl hl.1 rfl (by decide) dX4_readQuestion_93) hS (fun w23 s22 H locs h hW hS => ?_)
          refine lv_if_eq hx hb dX4_readQuestion_96 (tgt := 103) rfl (fun hc => ?_) (fun hc => ?_)
          · replace h := h.1 hc
            exact t_X4_readQuestion_103 C hr hS hW (hl.keep [false, false, false] rfl) h
          · replace h := h.2 hc
            refine lv_iconst (v := (1 : Int32)) hx hb dX4_readQuestion_99 (by decide) ?_
            refine lv_goto hx hb dX4_readQuestion_100 (tgt := 104) rfl ?_
            exact t_X4_readQuestion_104 C hr hS hW (hl.keep [false, false, false] rfl) h
      · replace h := h.2 hc
        refine lv_iconst (v := (1 : Int32)) hx hb dX4_readQuestion_77 (by decide) ?_
        exact r_z C hr hW hS h.1 h.2 dX4_readQuestion_78
    · replace h := h.1 hc
      refine x_aload_n C hl dX4_readQuestion_43 rfl ?_
      refine x_get C hW (t := 4) (k := 0) t1 kl_4 (by decide) fl_X4_15 (v := rv b0 (mR s10 l0 0)) rfl dX4_readQuestion_44 ?_
      refine lv_iconst (v := (3 : Int32)) hx hb dX4_readQuestion_47 (by decide) ?_
      have t24 := h.1
      replace h := h.2
      refine y_i (x_run (As := [.int (3 : Int32)]) C hW hS (T_X8_refuse l (mR s10 l0 0) (3 : Int32) s10 _ h) t24 kl_8 (CW.of yv_X8_refuse ml_X4_46) ⟨rfl, rfl, ⟨by decide, by decide⟩, by decide, by decide⟩ rfl hl.1 rfl (by decide) dX4_readQuestion_48) hS (fun w26 s25 H locs h hW hS => ?_)
      exact r_z C hr hW hS h.1 h.2 dX4_readQuestion_51
  · replace h := h.1 hc
    refine x_aload_n C hl dX4_readQuestion_15 rfl ?_
    refine x_get C hW (t := 4) (k := 0) t1 kl_4 (by decide) fl_X4_15 (v := rv b0 (mR s4 l0 0)) rfl dX4_readQuestion_16 ?_
    have t27 := h.1
    replace h := h.2
    refine y_i (x_run (As := []) C hW hS (T_X8_misplaced l (mR s4 l0 0) s4 _ h) t27 kl_8 (CW.of yv_X8_misplaced ml_X4_33) ⟨rfl, rfl, ⟨by decide, by decide⟩, by decide, by decide⟩ rfl hl.1 rfl (by decide) dX4_readQuestion_19) hS (fun w29 s28 H locs h hW hS => ?_)
    exact r_z C hr hW hS h.1 h.2 dX4_readQuestion_22
theorem T_X4_readQuestion (l : Launch) {G : Lay} {D : va_G} {tc : Nat → ClassId} {b0 : Nat} (l0 : Nat) (l1 : Nat) (σ : Mem) (Qx : Int32 → Mem → Prop) (h : X_X4_readQuestion G Qx l0 l1 σ) : MI l yX4_readQuestion cX4_readQuestion 3 ((some FieldType.boolean)) rm_X4_readQuestion G D tc b0 [rv b0 l0, rv b0 l1] σ Qx :=
  x_entry (y := yX4_readQuestion) [.inr (.inr l0), .inr (.inr l1)] 1 (by decide) (Nat.le_of_ble_eq_true rfl) (fun p e s m args below meth c ls C hr hW hl => t_X4_readQuestion_0 C hr va_S.rf hW (hl.keep [true, true, false] rfl) h)
/-! X5_clear -/
set_option maxRecDepth 20000 in
set_option maxHeartbeats 4000000 in
theorem t_X5_clear_2_n {p : Program} {l : Launch} {e : Env} {s : State} {m : MethodId} {args : Array Value} {below : List Frame} {meth : Method} {c : Code} {D : va_G} {tc : Nat → ClassId} {b0 : Nat} {G : Lay} {Qx : Mem → Prop} {l0 : Nat} (C : Cx p s m args meth c cX5_clear RX5 2 D tc b0) (hr : meth.sig.returnType = (none : Option FieldType)) (n : Nat) : ∀ (l1 : Int32) (σ : Mem) (H : Heap) (locs : List Loc) (ls : Array Slot), va_S (AA b0) s.heap H locs → Wd G D tc b0 σ H → hL b0 ls 2 [some (.inr (.inr l0)), some (.inl l1)] → Lp (X_X5_clear_2_s G Qx l0) n (l1, σ) → W p l e rm_X5_clear s m args below meth c H locs 0 0 (MQ below (va_Qv Qx (fun u t => Pw G D tc b0 u t) (AA b0)) args s 0 0 (AA b0)) (F0 m 2 ls []) := by
  have hx := C.1
  have hb := C.2.1
  induction n with
  | zero => intro l1 σ H locs ls hS hW hl h; exact False.elim h
  | succ n hK2 =>
    intro l1 σ H locs ls hS hW hl h
    replace h : X_X5_clear_2_s G Qx l0 (Lp (X_X5_clear_2_s G Qx l0) n) (l1, σ) := h
    unfold X_X5_clear_2_s at h
    refine x_iload_n C hl dX5_clear_2 rfl ?_
    refine lv_bipush (v := (12 : Int32)) hx hb dX5_clear_3 (by decide) ?_
    refine lv_icmp_ge hx hb dX5_clear_5 (tgt := 21) rfl (fun hc => ?_) (fun hc => ?_)
    · replace h := h.1 hc
      exact r_v C hr hW hS h dX5_clear_21
    · replace h := h.2 hc
      refine x_aload_n C hl dX5_clear_8 rfl ?_
      have t1 := h.1
      replace h := h.2
      refine x_get C hW (t := 5) (k := 1) t1 kl_5 (by decide) fl_X5_9 (v := rv b0 (mR σ l0 1)) rfl dX5_clear_9 ?_
      refine x_iload_n C hl dX5_clear_12 rfl ?_
      refine lv_iconst (v := (0 : Int32)) hx hb dX5_clear_13 (by decide) ?_
      have t2 := h.1
      replace h := h.2
      have v3 := h.1
      replace h := h.2
      refine x_iast C hW hS t2 v3 dX5_clear_14 (fun H locs hW hS => ?_)
      obtain ⟨s4, e_s4⟩ : ∃ z : Mem, z = (sI σ (mR σ l0 1) l1.toNatClampNeg (0 : Int32)) := ⟨_, rfl⟩
      replace h := h s4 e_s4
      replace hW : Wd G D tc b0 s4 H := by rw [e_s4]; exact hW
      refine x_iinc C hl dX5_clear_15 rfl (v := (1 : Int32)) (by decide) (by decide) rfl (fun ls hl => ?_)
      refine lv_goto hx hb dX5_clear_18 (tgt := 2) rfl ?_
      exact hK2 _ _ _ _ _ hS hW (hl.keep [true, true] rfl) h
set_option maxRecDepth 20000 in
set_option maxHeartbeats 4000000 in
theorem t_X5_clear_2 {p : Program} {l : Launch} {e : Env} {s : State} {m : MethodId} {args : Array Value} {below : List Frame} {meth : Method} {c : Code} {H : Heap} {locs : List Loc} {D : va_G} {tc : Nat → ClassId} {b0 : Nat} {ls : Array Slot} {G : Lay} {Qx : Mem → Prop} {l0 : Nat} {l1 : Int32}  {σ : Mem} (C : Cx p s m args meth c cX5_clear RX5 2 D tc b0) (hr : meth.sig.returnType = (none : Option FieldType)) (hS : va_S (AA b0) s.heap H locs) (hW : Wd G D tc b0 σ H) (hl : hL b0 ls 2 [some (.inr (.inr l0)), some (.inl l1)]) (h : X_X5_clear_2 G Qx l0 l1 σ) : W p l e rm_X5_clear s m args below meth c H locs 0 0 (MQ below (va_Qv Qx (fun u t => Pw G D tc b0 u t) (AA b0)) args s 0 0 (AA b0)) (F0 m 2 ls []) := by
  obtain ⟨n, h⟩ := h
  exact t_X5_clear_2_n C hr n l1 σ H locs ls hS hW hl h
set_option maxRecDepth 20000 in
set_option maxHeartbeats 4000000 in
theorem t_X5_clear_0 {p : Program} {l : Launch} {e : Env} {s : State} {m : MethodId} {args : Array Value} {below : List Frame} {meth : Method} {c : Code} {H : Heap} {locs : List Loc} {D : va_G} {tc : Nat → ClassId} {b0 : Nat} {ls : Array Slot} {G : Lay} {Qx : Mem → Prop} {l0 : Nat}  {σ : Mem} (C : Cx p s m args meth c cX5_clear RX5 2 D tc b0) (hr : meth.sig.returnType = (none : Option FieldType)) (hS : va_S (AA b0) s.heap H locs) (hW : Wd G D tc b0 σ H) (hl : hL b0 ls 2 [some (.inr (.inr l0)), none]) (h : X_X5_clear_0 G Qx l0  σ) : W p l e rm_X5_clear s m args below meth c H locs 0 0 (MQ below (va_Qv Qx (fun u t => Pw G D tc b0 u t) (AA b0)) args s 0 0 (AA b0)) (F0 m 0 ls []) := by
  have hx := C.1
  have hb := C.2.1
  unfold X_X5_clear_0 at h
  refine lv_iconst (v := (0 : Int32)) hx hb dX5_clear_0 (by decide) ?_
  refine x_istore_n C hl dX5_clear_1 (by decide) rfl (fun ls hl => ?_)
  exact t_X5_clear_2 C hr hS hW (hl.keep [true, true] rfl) h
theorem T_X5_clear (l : Launch) {G : Lay} {D : va_G} {tc : Nat → ClassId} {b0 : Nat} (l0 : Nat) (σ : Mem) (Qx : Mem → Prop) (h : X_X5_clear G Qx l0 σ) : MV l yX5_clear cX5_clear 2 ((none : Option FieldType)) rm_X5_clear G D tc b0 [rv b0 l0] σ Qx :=
  x_entry (y := yX5_clear) [.inr (.inr l0)] 1 (by decide) (Nat.le_of_ble_eq_true rfl) (fun p e s m args below meth c ls C hr hW hl => t_X5_clear_0 C hr va_S.rf hW (hl.keep [true, false] rfl) h)
/-! X5_copyFrom -/
set_option maxRecDepth 20000 in
set_option maxHeartbeats 4000000 in
theorem t_X5_copyFrom_2_n {p : Program} {l : Launch} {e : Env} {s : State} {m : MethodId} {args : Array Value} {below : List Frame} {meth : Method} {c : Code} {D : va_G} {tc : Nat → ClassId} {b0 : Nat} {G : Lay} {Qx : Mem → Prop} {l0 : Nat} {l1 : Nat} (C : Cx p s m args meth c cX5_copyFrom RX5 5 D tc b0) (hr : meth.sig.returnType = (none : Option FieldType)) (n : Nat) : ∀ (l2 : Int32) (σ : Mem) (H : Heap) (locs : List Loc) (ls : Array Slot), va_S (AA b0) s.heap H locs → Wd G D tc b0 σ H → hL b0 ls 5 [some (.inr (.inr l0)), some (.inr (.inr l1)), some (.inl l2), none, none] → Lp (X_X5_copyFrom_2_s G Qx l0 l1) n (l2, σ) → W p l e rm_X5_copyFrom s m args below meth c H locs 0 0 (MQ below (va_Qv Qx (fun u t => Pw G D tc b0 u t) (AA b0)) args s 0 0 (AA b0)) (F0 m 2 ls []) := by
  have hx := C.1
  have hb := C.2.1
  induction n with
  | zero => intro l2 σ H locs ls hS hW hl h; exact False.elim h
  | succ n hK2 =>
    intro l2 σ H locs ls hS hW hl h
    replace h : X_X5_copyFrom_2_s G Qx l0 l1 (Lp (X_X5_copyFrom_2_s G Qx l0 l1) n) (l2, σ) := h
    unfold X_X5_copyFrom_2_s at h
    refine x_iload_n C hl dX5_copyFrom_2 rfl ?_
    refine lv_bipush (v := (12 : Int32)) hx hb dX5_copyFrom_3 (by decide) ?_
    refine lv_icmp_ge hx hb dX5_copyFrom_5 (tgt := 104) rfl (fun hc => ?_) (fun hc => ?_)
    · replace h := h.1 hc
      exact r_v C hr hW hS h dX5_copyFrom_104
    · replace h := h.2 hc
      refine x_iload_n C hl dX5_copyFrom_8 rfl ?_
      refine lv_bipush (v := (60 : Int32)) hx hb dX5_copyFrom_9 (by decide) ?_
      refine lv_imul hx hb dX5_copyFrom_11 ?_
      refine x_istore_n C hl dX5_copyFrom_12 (by decide) rfl (fun ls hl => ?_)
      refine x_aload_n C hl dX5_copyFrom_13 rfl ?_
      have t1 := h.1
      replace h := h.2
      refine x_get C hW (t := 5) (k := 1) t1 kl_5 (by decide) fl_X5_9 (v := rv b0 (mR σ l1 1)) rfl dX5_copyFrom_14 ?_
      refine x_iload_n C hl dX5_copyFrom_17 rfl ?_
      have t2 := h.1
      replace h := h.2
      have v3 := h.1
      replace h := h.2
      refine x_iald C hW t2 v3 dX5_copyFrom_18 ?_
      refine x_istore C hl dX5_copyFrom_19 (by decide) rfl (fun ls hl => ?_)
      refine x_aload_n C hl dX5_copyFrom_21 rfl ?_
      have t4 := h.1
      replace h := h.2
      refine x_get C hW (t := 5) (k := 1) t4 kl_5 (by decide) fl_X5_9 (v := rv b0 (mR σ l0 1)) rfl dX5_copyFrom_22 ?_
      refine x_iload_n C hl dX5_copyFrom_25 rfl ?_
      refine x_iload C hl dX5_copyFrom_26 rfl ?_
      have t5 := h.1
      replace h := h.2
      have v6 := h.1
      replace h := h.2
      refine x_iast C hW hS t5 v6 dX5_copyFrom_28 (fun H locs hW hS => ?_)
      obtain ⟨s7, e_s7⟩ : ∃ z : Mem, z = (sI σ (mR σ l0 1) l2.toNatClampNeg (mI σ (mR σ l1 1) l2.toNatClampNeg)) := ⟨_, rfl⟩
      replace h := h s7 e_s7
      replace hW : Wd G D tc b0 s7 H := by rw [e_s7]; exact hW
      refine x_aload_n C hl dX5_copyFrom_29 rfl ?_
      refine x_get C hW (t := 5) (k := 2) t1 kl_5 (by decide) fl_X5_15 (v := rv b0 (mR s7 l1 2)) rfl dX5_copyFrom_30 ?_
      refine x_iload_n C hl dX5_copyFrom_33 rfl ?_
      refine x_aload_n C hl dX5_copyFrom_34 rfl ?_
      refine x_get C hW (t := 5) (k := 2) t4 kl_5 (by decide) fl_X5_15 (v := rv b0 (mR s7 l0 2)) rfl dX5_copyFrom_35 ?_
      refine x_iload_n C hl dX5_copyFrom_38 rfl ?_
      refine x_iload C hl dX5_copyFrom_39 rfl ?_
      have t8 := h.1
      replace h := h.2
      have t9 := h.1
      replace h := h.2
      have c10 := h.1
      replace h := h.2
      refine x_copy (index := 31) C hW hS hl.1 (gc4 219 rfl rfl) t8 t9 c10 (by decide) (by decide) dX5_copyFrom_41 (fun H locs hW hS => ?_)
      obtain ⟨s11, e_s11⟩ : ∃ z : Mem, z = (sC s7 (mR s7 l1 2) (l2 * (60 : Int32)).toNatClampNeg (mR s7 l0 2) (l2 * (60 : Int32)).toNatClampNeg (mI σ (mR σ l1 1) l2.toNatClampNeg).toNatClampNeg) := ⟨_, rfl⟩
      replace h := h s11 e_s11
      replace hW : Wd G D tc b0 s11 H := by rw [e_s11]; exact hW
      refine x_aload_n C hl dX5_copyFrom_44 rfl ?_
      refine x_get C hW (t := 5) (k := 3) t1 kl_5 (by decide) fl_X5_18 (v := rv b0 (mR s11 l1 3)) rfl dX5_copyFrom_45 ?_
      refine x_iload_n C hl dX5_copyFrom_48 rfl ?_
      refine x_aload_n C hl dX5_copyFrom_49 rfl ?_
      refine x_get C hW (t := 5) (k := 3) t4 kl_5 (by decide) fl_X5_18 (v := rv b0 (mR s11 l0 3)) rfl dX5_copyFrom_50 ?_
      refine x_iload_n C hl dX5_copyFrom_53 rfl ?_
      refine x_iload C hl dX5_copyFrom_54 rfl ?_
      have t12 := h.1
      replace h := h.2
      have t13 := h.1
      replace h := h.2
      have c14 := h.1
      replace h := h.2
      refine x_copy (index := 31) C hW hS hl.1 (gc4 219 rfl rfl) t12 t13 c14 (by decide) (by decide) dX5_copyFrom_56 (fun H locs hW hS => ?_)
      obtain ⟨s15, e_s15⟩ : ∃ z : Mem, z = (sC s11 (mR s11 l1 3) (l2 * (60 : Int32)).toNatClampNeg (mR s11 l0 3) (l2 * (60 : Int32)).toNatClampNeg (mI σ (mR σ l1 1) l2.toNatClampNeg).toNatClampNeg) := ⟨_, rfl⟩
      replace h := h s15 e_s15
      replace hW : Wd G D tc b0 s15 H := by rw [e_s15]; exact hW
      refine x_aload_n C hl dX5_copyFrom_59 rfl ?_
      refine x_get C hW (t := 5) (k := 4) t1 kl_5 (by decide) fl_X5_21 (v := rv b0 (mR s15 l1 4)) rfl dX5_copyFrom_60 ?_
      refine x_iload_n C hl dX5_copyFrom_63 rfl ?_
      refine x_aload_n C hl dX5_copyFrom_64 rfl ?_
      refine x_get C hW (t := 5) (k := 4) t4 kl_5 (by decide) fl_X5_21 (v := rv b0 (mR s15 l0 4)) rfl dX5_copyFrom_65 ?_
      refine x_iload_n C hl dX5_copyFrom_68 rfl ?_
      refine x_iload C hl dX5_copyFrom_69 rfl ?_
      have t16 := h.1
      replace h := h.2
      have t17 := h.1
      replace h := h.2
      have c18 := h.1
      replace h := h.2
      refine x_copy (index := 31) C hW hS hl.1 (gc4 219 rfl rfl) t16 t17 c18 (by decide) (by decide) dX5_copyFrom_71 (fun H locs hW hS => ?_)
      obtain ⟨s19, e_s19⟩ : ∃ z : Mem, z = (sC s15 (mR s15 l1 4) (l2 * (60 : Int32)).toNatClampNeg (mR s15 l0 4) (l2 * (60 : Int32)).toNatClampNeg (mI σ (mR σ l1 1) l2.toNatClampNeg).toNatClampNeg) := ⟨_, rfl⟩
      replace h := h s19 e_s19
      replace hW : Wd G D tc b0 s19 H := by rw [e_s19]; exact hW
      refine x_aload_n C hl dX5_copyFrom_74 rfl ?_
      refine x_get C hW (t := 5) (k := 5) t1 kl_5 (by decide) fl_X5_24 (v := rv b0 (mR s19 l1 5)) rfl dX5_copyFrom_75 ?_
      refine x_iload_n C hl dX5_copyFrom_78 rfl ?_
      refine lv_bipush (v := (16 : Int32)) hx hb dX5_copyFrom_79 (by decide) ?_
      refine lv_imul hx hb dX5_copyFrom_81 ?_
      refine x_aload_n C hl dX5_copyFrom_82 rfl ?_
      refine x_get C hW (t := 5) (k := 5) t4 kl_5 (by decide) fl_X5_24 (v := rv b0 (mR s19 l0 5)) rfl dX5_copyFrom_83 ?_
      refine x_iload_n C hl dX5_copyFrom_86 rfl ?_
      refine lv_bipush (v := (16 : Int32)) hx hb dX5_copyFrom_87 (by decide) ?_
      refine lv_imul hx hb dX5_copyFrom_89 ?_
      refine x_iload C hl dX5_copyFrom_90 rfl ?_
      refine lv_bipush (v := (16 : Int32)) hx hb dX5_copyFrom_92 (by decide) ?_
      refine lv_imul hx hb dX5_copyFrom_94 ?_
      have t20 := h.1
      replace h := h.2
      have t21 := h.1
      replace h := h.2
      have c22 := h.1
      replace h := h.2
      refine x_copy (index := 31) C hW hS hl.1 (gc4 219 rfl rfl) t20 t21 c22 (by decide) (by decide) dX5_copyFrom_95 (fun H locs hW hS => ?_)
      obtain ⟨s23, e_s23⟩ : ∃ z : Mem, z = (sC s19 (mR s19 l1 5) ((l2 * (60 : Int32)) * (16 : Int32)).toNatClampNeg (mR s19 l0 5) ((l2 * (60 : Int32)) * (16 : Int32)).toNatClampNeg ((mI σ (mR σ l1 1) l2.toNatClampNeg) * (16 : Int32)).toNatClampNeg) := ⟨_, rfl⟩
      replace h := h s23 e_s23
      replace hW : Wd G D tc b0 s23 H := by rw [e_s23]; exact hW
      refine x_iinc C hl dX5_copyFrom_98 rfl (v := (1 : Int32)) (by decide) (by decide) rfl (fun ls hl => ?_)
      refine lv_goto hx hb dX5_copyFrom_101 (tgt := 2) rfl ?_
      exact hK2 _ _ _ _ _ hS hW (hl.keep [true, true, true, false, false] rfl) h
set_option maxRecDepth 20000 in
set_option maxHeartbeats 4000000 in
theorem t_X5_copyFrom_2 {p : Program} {l : Launch} {e : Env} {s : State} {m : MethodId} {args : Array Value} {below : List Frame} {meth : Method} {c : Code} {H : Heap} {locs : List Loc} {D : va_G} {tc : Nat → ClassId} {b0 : Nat} {ls : Array Slot} {G : Lay} {Qx : Mem → Prop} {l0 : Nat} {l1 : Nat} {l2 : Int32}  {σ : Mem} (C : Cx p s m args meth c cX5_copyFrom RX5 5 D tc b0) (hr : meth.sig.returnType = (none : Option FieldType)) (hS : va_S (AA b0) s.heap H locs) (hW : Wd G D tc b0 σ H) (hl : hL b0 ls 5 [some (.inr (.inr l0)), some (.inr (.inr l1)), some (.inl l2), none, none]) (h : X_X5_copyFrom_2 G Qx l0 l1 l2 σ) : W p l e rm_X5_copyFrom s m args below meth c H locs 0 0 (MQ below (va_Qv Qx (fun u t => Pw G D tc b0 u t) (AA b0)) args s 0 0 (AA b0)) (F0 m 2 ls []) := by
  obtain ⟨n, h⟩ := h
  exact t_X5_copyFrom_2_n C hr n l2 σ H locs ls hS hW hl h
set_option maxRecDepth 20000 in
set_option maxHeartbeats 4000000 in
theorem t_X5_copyFrom_0 {p : Program} {l : Launch} {e : Env} {s : State} {m : MethodId} {args : Array Value} {below : List Frame} {meth : Method} {c : Code} {H : Heap} {locs : List Loc} {D : va_G} {tc : Nat → ClassId} {b0 : Nat} {ls : Array Slot} {G : Lay} {Qx : Mem → Prop} {l0 : Nat} {l1 : Nat}  {σ : Mem} (C : Cx p s m args meth c cX5_copyFrom RX5 5 D tc b0) (hr : meth.sig.returnType = (none : Option FieldType)) (hS : va_S (AA b0) s.heap H locs) (hW : Wd G D tc b0 σ H) (hl : hL b0 ls 5 [some (.inr (.inr l0)), some (.inr (.inr l1)), none, none, none]) (h : X_X5_copyFrom_0 G Qx l0 l1  σ) : W p l e rm_X5_copyFrom s m args below meth c H locs 0 0 (MQ below (va_Qv Qx (fun u t => Pw G D tc b0 u t) (AA b0)) args s 0 0 (AA b0)) (F0 m 0 ls []) := by
  have hx := C.1
  have hb := C.2.1
  unfold X_X5_copyFrom_0 at h
  refine lv_iconst (v := (0 : Int32)) hx hb dX5_copyFrom_0 (by decide) ?_
  refine x_istore_n C hl dX5_copyFrom_1 (by decide) rfl (fun ls hl => ?_)
  exact t_X5_copyFrom_2 C hr hS hW (hl.keep [true, true, true, false, false] rfl) h
theorem T_X5_copyFrom (l : Launch) {G : Lay} {D : va_G} {tc : Nat → ClassId} {b0 : Nat} (l0 : Nat) (l1 : Nat) (σ : Mem) (Qx : Mem → Prop) (h : X_X5_copyFrom G Qx l0 l1 σ) : MV l yX5_copyFrom cX5_copyFrom 5 ((none : Option FieldType)) rm_X5_copyFrom G D tc b0 [rv b0 l0, rv b0 l1] σ Qx :=
  x_entry (y := yX5_copyFrom) [.inr (.inr l0), .inr (.inr l1)] 3 (by decide) (Nat.le_of_ble_eq_true rfl) (fun p e s m args below meth c ls C hr hW hl => t_X5_copyFrom_0 C hr va_S.rf hW (hl.keep [true, true, false, false, false] rfl) h)
/-! X5_total -/
set_option maxRecDepth 20000 in
set_option maxHeartbeats 4000000 in
theorem t_X5_total_4_n {p : Program} {l : Launch} {e : Env} {s : State} {m : MethodId} {args : Array Value} {below : List Frame} {meth : Method} {c : Code} {D : va_G} {tc : Nat → ClassId} {b0 : Nat} {G : Lay} {Qx : Int32 → Mem → Prop} {l0 : Nat} (C : Cx p s m args meth c cX5_total RX5 3 D tc b0) (hr : meth.sig.returnType = (some FieldType.int)) (n : Nat) : ∀ (l1 : Int32) (l2 : Int32) (σ : Mem) (H : Heap) (locs : List Loc) (ls : Array Slot), va_S (AA b0) s.heap H locs → Wd G D tc b0 σ H → hL b0 ls 3 [some (.inr (.inr l0)), some (.inl l1), some (.inl l2)] → Lp (X_X5_total_4_s G Qx l0) n (l1, l2, σ) → W p l e rm_X5_total s m args below meth c H locs 0 0 (MQ below (va_Qi Qx (fun u t => Pw G D tc b0 u t) (AA b0)) args s 0 0 (AA b0)) (F0 m 4 ls []) := by
  have hx := C.1
  have hb := C.2.1
  induction n with
  | zero => intro l1 l2 σ H locs ls hS hW hl h; exact False.elim h
  | succ n hK4 =>
    intro l1 l2 σ H locs ls hS hW hl h
    replace h : X_X5_total_4_s G Qx l0 (Lp (X_X5_total_4_s G Qx l0) n) (l1, l2, σ) := h
    unfold X_X5_total_4_s at h
    refine x_iload_n C hl dX5_total_4 rfl ?_
    refine lv_bipush (v := (12 : Int32)) hx hb dX5_total_5 (by decide) ?_
    refine lv_icmp_ge hx hb dX5_total_7 (tgt := 25) rfl (fun hc => ?_) (fun hc => ?_)
    · replace h := h.1 hc
      refine x_iload_n C hl dX5_total_25 rfl ?_
      exact r_i C hr hW hS h dX5_total_26
    · replace h := h.2 hc
      refine x_iload_n C hl dX5_total_10 rfl ?_
      refine x_aload_n C hl dX5_total_11 rfl ?_
      have t1 := h.1
      replace h := h.2
      refine x_get C hW (t := 5) (k := 1) t1 kl_5 (by decide) fl_X5_9 (v := rv b0 (mR σ l0 1)) rfl dX5_total_12 ?_
      refine x_iload_n C hl dX5_total_15 rfl ?_
      have t2 := h.1
      replace h := h.2
      have v3 := h.1
      replace h := h.2
      refine x_iald C hW t2 v3 dX5_total_16 ?_
      refine lv_iadd hx hb dX5_total_17 ?_
      refine x_istore_n C hl dX5_total_18 (by decide) rfl (fun ls hl => ?_)
      refine x_iinc C hl dX5_total_19 rfl (v := (1 : Int32)) (by decide) (by decide) rfl (fun ls hl => ?_)
      refine lv_goto hx hb dX5_total_22 (tgt := 4) rfl ?_
      exact hK4 _ _ _ _ _ _ hS hW (hl.keep [true, true, true] rfl) h
set_option maxRecDepth 20000 in
set_option maxHeartbeats 4000000 in
theorem t_X5_total_4 {p : Program} {l : Launch} {e : Env} {s : State} {m : MethodId} {args : Array Value} {below : List Frame} {meth : Method} {c : Code} {H : Heap} {locs : List Loc} {D : va_G} {tc : Nat → ClassId} {b0 : Nat} {ls : Array Slot} {G : Lay} {Qx : Int32 → Mem → Prop} {l0 : Nat} {l1 : Int32} {l2 : Int32}  {σ : Mem} (C : Cx p s m args meth c cX5_total RX5 3 D tc b0) (hr : meth.sig.returnType = (some FieldType.int)) (hS : va_S (AA b0) s.heap H locs) (hW : Wd G D tc b0 σ H) (hl : hL b0 ls 3 [some (.inr (.inr l0)), some (.inl l1), some (.inl l2)]) (h : X_X5_total_4 G Qx l0 l1 l2 σ) : W p l e rm_X5_total s m args below meth c H locs 0 0 (MQ below (va_Qi Qx (fun u t => Pw G D tc b0 u t) (AA b0)) args s 0 0 (AA b0)) (F0 m 4 ls []) := by
  obtain ⟨n, h⟩ := h
  exact t_X5_total_4_n C hr n l1 l2 σ H locs ls hS hW hl h
set_option maxRecDepth 20000 in
set_option maxHeartbeats 4000000 in
theorem t_X5_total_0 {p : Program} {l : Launch} {e : Env} {s : State} {m : MethodId} {args : Array Value} {below : List Frame} {meth : Method} {c : Code} {H : Heap} {locs : List Loc} {D : va_G} {tc : Nat → ClassId} {b0 : Nat} {ls : Array Slot} {G : Lay} {Qx : Int32 → Mem → Prop} {l0 : Nat}  {σ : Mem} (C : Cx p s m args meth c cX5_total RX5 3 D tc b0) (hr : meth.sig.returnType = (some FieldType.int)) (hS : va_S (AA b0) s.heap H locs) (hW : Wd G D tc b0 σ H) (hl : hL b0 ls 3 [some (.inr (.inr l0)), none, none]) (h : X_X5_total_0 G Qx l0  σ) : W p l e rm_X5_total s m args below meth c H locs 0 0 (MQ below (va_Qi Qx (fun u t => Pw G D tc b0 u t) (AA b0)) args s 0 0 (AA b0)) (F0 m 0 ls []) := by
  have hx := C.1
  have hb := C.2.1
  unfold X_X5_total_0 at h
  refine lv_iconst (v := (0 : Int32)) hx hb dX5_total_0 (by decide) ?_
  refine x_istore_n C hl dX5_total_1 (by decide) rfl (fun ls hl => ?_)
  refine lv_iconst (v := (0 : Int32)) hx hb dX5_total_2 (by decide) ?_
  refine x_istore_n C hl dX5_total_3 (by decide) rfl (fun ls hl => ?_)
  exact t_X5_total_4 C hr hS hW (hl.keep [true, true, true] rfl) h
theorem T_X5_total (l : Launch) {G : Lay} {D : va_G} {tc : Nat → ClassId} {b0 : Nat} (l0 : Nat) (σ : Mem) (Qx : Int32 → Mem → Prop) (h : X_X5_total G Qx l0 σ) : MI l yX5_total cX5_total 3 ((some FieldType.int)) rm_X5_total G D tc b0 [rv b0 l0] σ Qx :=
  x_entry (y := yX5_total) [.inr (.inr l0)] 2 (by decide) (Nat.le_of_ble_eq_true rfl) (fun p e s m args below meth c ls C hr hW hl => t_X5_total_0 C hr va_S.rf hW (hl.keep [true, false, false] rfl) h)
/-! X5_firstOf -/
set_option maxRecDepth 20000 in
set_option maxHeartbeats 4000000 in
theorem t_X5_firstOf_18 {p : Program} {l : Launch} {e : Env} {s : State} {m : MethodId} {args : Array Value} {below : List Frame} {meth : Method} {c : Code} {H : Heap} {locs : List Loc} {D : va_G} {tc : Nat → ClassId} {b0 : Nat} {ls : Array Slot} {G : Lay} {Qx : Int32 → Mem → Prop}  {k0 : Int32} {σ : Mem} (C : Cx p s m args meth c cX5_firstOf RX5 2 D tc b0) (hr : meth.sig.returnType = (some FieldType.int)) (hS : va_S (AA b0) s.heap H locs) (hW : Wd G D tc b0 σ H) (hl : hL b0 ls 2 [none, none]) (h : X_X5_firstOf_18 G Qx  k0 σ) : W p l e rm_X5_firstOf s m args below meth c H locs 0 0 (MQ below (va_Qi Qx (fun u t => Pw G D tc b0 u t) (AA b0)) args s 0 0 (AA b0)) (F0 m 18 ls [.int k0]) := by
  have hx := C.1
  have hb := C.2.1
  unfold X_X5_firstOf_18 at h
  exact r_i C hr hW hS h dX5_firstOf_18
set_option maxRecDepth 20000 in
set_option maxHeartbeats 4000000 in
theorem t_X5_firstOf_10 {p : Program} {l : Launch} {e : Env} {s : State} {m : MethodId} {args : Array Value} {below : List Frame} {meth : Method} {c : Code} {H : Heap} {locs : List Loc} {D : va_G} {tc : Nat → ClassId} {b0 : Nat} {ls : Array Slot} {G : Lay} {Qx : Int32 → Mem → Prop}   {σ : Mem} (C : Cx p s m args meth c cX5_firstOf RX5 2 D tc b0) (hr : meth.sig.returnType = (some FieldType.int)) (hS : va_S (AA b0) s.heap H locs) (hW : Wd G D tc b0 σ H) (hl : hL b0 ls 2 [none, none]) (h : X_X5_firstOf_10 G Qx   σ) : W p l e rm_X5_firstOf s m args below meth c H locs 0 0 (MQ below (va_Qi Qx (fun u t => Pw G D tc b0 u t) (AA b0)) args s 0 0 (AA b0)) (F0 m 10 ls []) := by
  have hx := C.1
  have hb := C.2.1
  unfold X_X5_firstOf_10 at h
  refine lv_iconst (v := (0 : Int32)) hx hb dX5_firstOf_10 (by decide) ?_
  refine lv_goto hx hb dX5_firstOf_11 (tgt := 18) rfl ?_
  exact t_X5_firstOf_18 C hr hS hW (hl.keep [false, false] rfl) h
set_option maxRecDepth 20000 in
set_option maxHeartbeats 4000000 in
theorem t_X5_firstOf_0 {p : Program} {l : Launch} {e : Env} {s : State} {m : MethodId} {args : Array Value} {below : List Frame} {meth : Method} {c : Code} {H : Heap} {locs : List Loc} {D : va_G} {tc : Nat → ClassId} {b0 : Nat} {ls : Array Slot} {G : Lay} {Qx : Int32 → Mem → Prop} {l0 : Nat} {l1 : Int32}  {σ : Mem} (C : Cx p s m args meth c cX5_firstOf RX5 2 D tc b0) (hr : meth.sig.returnType = (some FieldType.int)) (hS : va_S (AA b0) s.heap H locs) (hW : Wd G D tc b0 σ H) (hl : hL b0 ls 2 [some (.inr (.inr l0)), some (.inl l1)]) (h : X_X5_firstOf_0 G Qx l0 l1  σ) : W p l e rm_X5_firstOf s m args below meth c H locs 0 0 (MQ below (va_Qi Qx (fun u t => Pw G D tc b0 u t) (AA b0)) args s 0 0 (AA b0)) (F0 m 0 ls []) := by
  have hx := C.1
  have hb := C.2.1
  unfold X_X5_firstOf_0 at h
  refine x_iload_n C hl dX5_firstOf_0 rfl ?_
  refine lv_if_lt hx hb dX5_firstOf_1 (tgt := 10) rfl (fun hc => ?_) (fun hc => ?_)
  · replace h := h.1 hc
    exact t_X5_firstOf_10 C hr hS hW (hl.keep [false, false] rfl) h
  · replace h := h.2 hc
    refine x_iload_n C hl dX5_firstOf_4 rfl ?_
    refine lv_bipush (v := (12 : Int32)) hx hb dX5_firstOf_5 (by decide) ?_
    refine lv_icmp_lt hx hb dX5_firstOf_7 (tgt := 14) rfl (fun hc => ?_) (fun hc => ?_)
    · replace h := h.1 hc
      refine x_iload_n C hl dX5_firstOf_14 rfl ?_
      refine lv_bipush (v := (60 : Int32)) hx hb dX5_firstOf_15 (by decide) ?_
      refine lv_imul hx hb dX5_firstOf_17 ?_
      exact t_X5_firstOf_18 C hr hS hW (hl.keep [false, false] rfl) h
    · replace h := h.2 hc
      exact t_X5_firstOf_10 C hr hS hW (hl.keep [false, false] rfl) h
theorem T_X5_firstOf (l : Launch) {G : Lay} {D : va_G} {tc : Nat → ClassId} {b0 : Nat} (l0 : Nat) (l1 : Int32) (σ : Mem) (Qx : Int32 → Mem → Prop) (h : X_X5_firstOf G Qx l0 l1 σ) : MI l yX5_firstOf cX5_firstOf 2 ((some FieldType.int)) rm_X5_firstOf G D tc b0 [rv b0 l0, .int l1] σ Qx :=
  x_entry (y := yX5_firstOf) [.inr (.inr l0), .inl l1] 0 (by decide) (Nat.le_of_ble_eq_true rfl) (fun p e s m args below meth c ls C hr hW hl => t_X5_firstOf_0 C hr va_S.rf hW (hl.keep [true, true] rfl) h)
/-! X5_endOf -/
set_option maxRecDepth 20000 in
set_option maxHeartbeats 4000000 in
theorem t_X5_endOf_25 {p : Program} {l : Launch} {e : Env} {s : State} {m : MethodId} {args : Array Value} {below : List Frame} {meth : Method} {c : Code} {H : Heap} {locs : List Loc} {D : va_G} {tc : Nat → ClassId} {b0 : Nat} {ls : Array Slot} {G : Lay} {Qx : Int32 → Mem → Prop}  {k0 : Int32} {σ : Mem} (C : Cx p s m args meth c cX5_endOf RX5 2 D tc b0) (hr : meth.sig.returnType = (some FieldType.int)) (hS : va_S (AA b0) s.heap H locs) (hW : Wd G D tc b0 σ H) (hl : hL b0 ls 2 [none, none]) (h : X_X5_endOf_25 G Qx  k0 σ) : W p l e rm_X5_endOf s m args below meth c H locs 0 0 (MQ below (va_Qi Qx (fun u t => Pw G D tc b0 u t) (AA b0)) args s 0 0 (AA b0)) (F0 m 25 ls [.int k0]) := by
  have hx := C.1
  have hb := C.2.1
  unfold X_X5_endOf_25 at h
  exact r_i C hr hW hS h dX5_endOf_25
set_option maxRecDepth 20000 in
set_option maxHeartbeats 4000000 in
theorem t_X5_endOf_10 {p : Program} {l : Launch} {e : Env} {s : State} {m : MethodId} {args : Array Value} {below : List Frame} {meth : Method} {c : Code} {H : Heap} {locs : List Loc} {D : va_G} {tc : Nat → ClassId} {b0 : Nat} {ls : Array Slot} {G : Lay} {Qx : Int32 → Mem → Prop}   {σ : Mem} (C : Cx p s m args meth c cX5_endOf RX5 2 D tc b0) (hr : meth.sig.returnType = (some FieldType.int)) (hS : va_S (AA b0) s.heap H locs) (hW : Wd G D tc b0 σ H) (hl : hL b0 ls 2 [none, none]) (h : X_X5_endOf_10 G Qx   σ) : W p l e rm_X5_endOf s m args below meth c H locs 0 0 (MQ below (va_Qi Qx (fun u t => Pw G D tc b0 u t) (AA b0)) args s 0 0 (AA b0)) (F0 m 10 ls []) := by
  have hx := C.1
  have hb := C.2.1
  unfold X_X5_endOf_10 at h
  refine lv_iconst (v := (0 : Int32)) hx hb dX5_endOf_10 (by decide) ?_
  refine lv_goto hx hb dX5_endOf_11 (tgt := 25) rfl ?_
  exact t_X5_endOf_25 C hr hS hW (hl.keep [false, false] rfl) h
set_option maxRecDepth 20000 in
set_option maxHeartbeats 4000000 in
theorem t_X5_endOf_0 {p : Program} {l : Launch} {e : Env} {s : State} {m : MethodId} {args : Array Value} {below : List Frame} {meth : Method} {c : Code} {H : Heap} {locs : List Loc} {D : va_G} {tc : Nat → ClassId} {b0 : Nat} {ls : Array Slot} {G : Lay} {Qx : Int32 → Mem → Prop} {l0 : Nat} {l1 : Int32}  {σ : Mem} (C : Cx p s m args meth c cX5_endOf RX5 2 D tc b0) (hr : meth.sig.returnType = (some FieldType.int)) (hS : va_S (AA b0) s.heap H locs) (hW : Wd G D tc b0 σ H) (hl : hL b0 ls 2 [some (.inr (.inr l0)), some (.inl l1)]) (h : X_X5_endOf_0 G Qx l0 l1  σ) : W p l e rm_X5_endOf s m args below meth c H locs 0 0 (MQ below (va_Qi Qx (fun u t => Pw G D tc b0 u t) (AA b0)) args s 0 0 (AA b0)) (F0 m 0 ls []) := by
  have hx := C.1
  have hb := C.2.1
  unfold X_X5_endOf_0 at h
  refine x_iload_n C hl dX5_endOf_0 rfl ?_
  refine lv_if_lt hx hb dX5_endOf_1 (tgt := 10) rfl (fun hc => ?_) (fun hc => ?_)
  · replace h := h.1 hc
    exact t_X5_endOf_10 C hr hS hW (hl.keep [false, false] rfl) h
  · replace h := h.2 hc
    refine x_iload_n C hl dX5_endOf_4 rfl ?_
    refine lv_bipush (v := (12 : Int32)) hx hb dX5_endOf_5 (by decide) ?_
    refine lv_icmp_lt hx hb dX5_endOf_7 (tgt := 14) rfl (fun hc => ?_) (fun hc => ?_)
    · replace h := h.1 hc
      refine x_iload_n C hl dX5_endOf_14 rfl ?_
      refine lv_bipush (v := (60 : Int32)) hx hb dX5_endOf_15 (by decide) ?_
      refine lv_imul hx hb dX5_endOf_17 ?_
      refine x_aload_n C hl dX5_endOf_18 rfl ?_
      have t1 := h.1
      replace h := h.2
      refine x_get C hW (t := 5) (k := 1) t1 kl_5 (by decide) fl_X5_9 (v := rv b0 (mR σ l0 1)) rfl dX5_endOf_19 ?_
      refine x_iload_n C hl dX5_endOf_22 rfl ?_
      have t2 := h.1
      replace h := h.2
      have v3 := h.1
      replace h := h.2
      refine x_iald C hW t2 v3 dX5_endOf_23 ?_
      refine lv_iadd hx hb dX5_endOf_24 ?_
      exact t_X5_endOf_25 C hr hS hW (hl.keep [false, false] rfl) h
    · replace h := h.2 hc
      exact t_X5_endOf_10 C hr hS hW (hl.keep [false, false] rfl) h
theorem T_X5_endOf (l : Launch) {G : Lay} {D : va_G} {tc : Nat → ClassId} {b0 : Nat} (l0 : Nat) (l1 : Int32) (σ : Mem) (Qx : Int32 → Mem → Prop) (h : X_X5_endOf G Qx l0 l1 σ) : MI l yX5_endOf cX5_endOf 2 ((some FieldType.int)) rm_X5_endOf G D tc b0 [rv b0 l0, .int l1] σ Qx :=
  x_entry (y := yX5_endOf) [.inr (.inr l0), .inl l1] 0 (by decide) (Nat.le_of_ble_eq_true rfl) (fun p e s m args below meth c ls C hr hW hl => t_X5_endOf_0 C hr va_S.rf hW (hl.keep [true, true] rfl) h)
/-! X5_isFull -/
set_option maxRecDepth 20000 in
set_option maxHeartbeats 4000000 in
theorem t_X5_isFull_16 {p : Program} {l : Launch} {e : Env} {s : State} {m : MethodId} {args : Array Value} {below : List Frame} {meth : Method} {c : Code} {H : Heap} {locs : List Loc} {D : va_G} {tc : Nat → ClassId} {b0 : Nat} {ls : Array Slot} {G : Lay} {Qx : Int32 → Mem → Prop}  {k0 : Int32} {σ : Mem} (C : Cx p s m args meth c cX5_isFull RX5 2 D tc b0) (hr : meth.sig.returnType = (some FieldType.boolean)) (hS : va_S (AA b0) s.heap H locs) (hW : Wd G D tc b0 σ H) (hl : hL b0 ls 2 [none, none]) (h : X_X5_isFull_16 G Qx  k0 σ) : W p l e rm_X5_isFull s m args below meth c H locs 0 0 (MQ below (va_Qi Qx (fun u t => Pw G D tc b0 u t) (AA b0)) args s 0 0 (AA b0)) (F0 m 16 ls [.int k0]) := by
  have hx := C.1
  have hb := C.2.1
  unfold X_X5_isFull_16 at h
  exact r_z C hr hW hS h.1 h.2 dX5_isFull_16
set_option maxRecDepth 20000 in
set_option maxHeartbeats 4000000 in
theorem t_X5_isFull_0 {p : Program} {l : Launch} {e : Env} {s : State} {m : MethodId} {args : Array Value} {below : List Frame} {meth : Method} {c : Code} {H : Heap} {locs : List Loc} {D : va_G} {tc : Nat → ClassId} {b0 : Nat} {ls : Array Slot} {G : Lay} {Qx : Int32 → Mem → Prop} {l0 : Nat} {l1 : Int32}  {σ : Mem} (C : Cx p s m args meth c cX5_isFull RX5 2 D tc b0) (hr : meth.sig.returnType = (some FieldType.boolean)) (hS : va_S (AA b0) s.heap H locs) (hW : Wd G D tc b0 σ H) (hl : hL b0 ls 2 [some (.inr (.inr l0)), some (.inl l1)]) (h : X_X5_isFull_0 G Qx l0 l1  σ) : W p l e rm_X5_isFull s m args below meth c H locs 0 0 (MQ below (va_Qi Qx (fun u t => Pw G D tc b0 u t) (AA b0)) args s 0 0 (AA b0)) (F0 m 0 ls []) := by
  have hx := C.1
  have hb := C.2.1
  unfold X_X5_isFull_0 at h
  refine x_aload_n C hl dX5_isFull_0 rfl ?_
  have t1 := h.1
  replace h := h.2
  refine x_get C hW (t := 5) (k := 1) t1 kl_5 (by decide) fl_X5_9 (v := rv b0 (mR σ l0 1)) rfl dX5_isFull_1 ?_
  refine x_iload_n C hl dX5_isFull_4 rfl ?_
  have t2 := h.1
  replace h := h.2
  have v3 := h.1
  replace h := h.2
  refine x_iald C hW t2 v3 dX5_isFull_5 ?_
  refine lv_bipush (v := (60 : Int32)) hx hb dX5_isFull_6 (by decide) ?_
  refine lv_icmp_lt hx hb dX5_isFull_8 (tgt := 15) rfl (fun hc => ?_) (fun hc => ?_)
  · replace h := h.1 hc
    refine lv_iconst (v := (0 : Int32)) hx hb dX5_isFull_15 (by decide) ?_
    exact t_X5_isFull_16 C hr hS hW (hl.keep [false, false] rfl) h
  · replace h := h.2 hc
    refine lv_iconst (v := (1 : Int32)) hx hb dX5_isFull_11 (by decide) ?_
    refine lv_goto hx hb dX5_isFull_12 (tgt := 16) rfl ?_
    exact t_X5_isFull_16 C hr hS hW (hl.keep [false, false] rfl) h
theorem T_X5_isFull (l : Launch) {G : Lay} {D : va_G} {tc : Nat → ClassId} {b0 : Nat} (l0 : Nat) (l1 : Int32) (σ : Mem) (Qx : Int32 → Mem → Prop) (h : X_X5_isFull G Qx l0 l1 σ) : MI l yX5_isFull cX5_isFull 2 ((some FieldType.boolean)) rm_X5_isFull G D tc b0 [rv b0 l0, .int l1] σ Qx :=
  x_entry (y := yX5_isFull) [.inr (.inr l0), .inl l1] 0 (by decide) (Nat.le_of_ble_eq_true rfl) (fun p e s m args below meth c ls C hr hW hl => t_X5_isFull_0 C hr va_S.rf hW (hl.keep [true, true] rfl) h)
/-! X5_set -/
set_option maxRecDepth 20000 in
set_option maxHeartbeats 4000000 in
theorem t_X5_set_0 {p : Program} {l : Launch} {e : Env} {s : State} {m : MethodId} {args : Array Value} {below : List Frame} {meth : Method} {c : Code} {H : Heap} {locs : List Loc} {D : va_G} {tc : Nat → ClassId} {b0 : Nat} {ls : Array Slot} {G : Lay} {Qx : Mem → Prop} {l0 : Nat} {l1 : Int32} {l2 : Int32} {l3 : Int32}  {σ : Mem} (C : Cx p s m args meth c cX5_set RX5 4 D tc b0) (hr : meth.sig.returnType = (none : Option FieldType)) (hS : va_S (AA b0) s.heap H locs) (hW : Wd G D tc b0 σ H) (hl : hL b0 ls 4 [some (.inr (.inr l0)), some (.inl l1), some (.inl l2), some (.inl l3)]) (h : X_X5_set_0 G Qx l0 l1 l2 l3  σ) : W p l e rm_X5_set s m args below meth c H locs 0 0 (MQ below (va_Qv Qx (fun u t => Pw G D tc b0 u t) (AA b0)) args s 0 0 (AA b0)) (F0 m 0 ls []) := by
  have hx := C.1
  have hb := C.2.1
  unfold X_X5_set_0 at h
  refine x_aload_n C hl dX5_set_0 rfl ?_
  have t1 := h.1
  replace h := h.2
  refine x_get C hW (t := 5) (k := 5) t1 kl_5 (by decide) fl_X5_24 (v := rv b0 (mR σ l0 5)) rfl dX5_set_1 ?_
  refine x_iload_n C hl dX5_set_4 rfl ?_
  refine lv_bipush (v := (16 : Int32)) hx hb dX5_set_5 (by decide) ?_
  refine lv_imul hx hb dX5_set_7 ?_
  refine x_iload_n C hl dX5_set_8 rfl ?_
  refine lv_iadd hx hb dX5_set_9 ?_
  refine x_iload_n C hl dX5_set_10 rfl ?_
  have t2 := h.1
  replace h := h.2
  have v3 := h.1
  replace h := h.2
  refine x_iast C hW hS t2 v3 dX5_set_11 (fun H locs hW hS => ?_)
  obtain ⟨s4, e_s4⟩ : ∃ z : Mem, z = (sI σ (mR σ l0 5) ((l1 * (16 : Int32)) + l2).toNatClampNeg l3) := ⟨_, rfl⟩
  replace h := h s4 e_s4
  replace hW : Wd G D tc b0 s4 H := by rw [e_s4]; exact hW
  exact r_v C hr hW hS h dX5_set_12
theorem T_X5_set (l : Launch) {G : Lay} {D : va_G} {tc : Nat → ClassId} {b0 : Nat} (l0 : Nat) (l1 : Int32) (l2 : Int32) (l3 : Int32) (σ : Mem) (Qx : Mem → Prop) (h : X_X5_set G Qx l0 l1 l2 l3 σ) : MV l yX5_set cX5_set 4 ((none : Option FieldType)) rm_X5_set G D tc b0 [rv b0 l0, .int l1, .int l2, .int l3] σ Qx :=
  x_entry (y := yX5_set) [.inr (.inr l0), .inl l1, .inl l2, .inl l3] 0 (by decide) (Nat.le_of_ble_eq_true rfl) (fun p e s m args below meth c ls C hr hW hl => t_X5_set_0 C hr va_S.rf hW (hl.keep [true, true, true, true] rfl) h)
/-! X5_copyValues -/
set_option maxRecDepth 20000 in
set_option maxHeartbeats 4000000 in
theorem t_X5_copyValues_0 {p : Program} {l : Launch} {e : Env} {s : State} {m : MethodId} {args : Array Value} {below : List Frame} {meth : Method} {c : Code} {H : Heap} {locs : List Loc} {D : va_G} {tc : Nat → ClassId} {b0 : Nat} {ls : Array Slot} {G : Lay} {Qx : Mem → Prop} {l0 : Nat} {l1 : Int32} {l2 : Nat}  {σ : Mem} (C : Cx p s m args meth c cX5_copyValues RX5 3 D tc b0) (hr : meth.sig.returnType = (none : Option FieldType)) (hS : va_S (AA b0) s.heap H locs) (hW : Wd G D tc b0 σ H) (hl : hL b0 ls 3 [some (.inr (.inr l0)), some (.inl l1), some (.inr (.inr l2))]) (h : X_X5_copyValues_0 G Qx l0 l1 l2  σ) : W p l e rm_X5_copyValues s m args below meth c H locs 0 0 (MQ below (va_Qv Qx (fun u t => Pw G D tc b0 u t) (AA b0)) args s 0 0 (AA b0)) (F0 m 0 ls []) := by
  have hx := C.1
  have hb := C.2.1
  unfold X_X5_copyValues_0 at h
  refine x_aload_n C hl dX5_copyValues_0 rfl ?_
  have t1 := h.1
  replace h := h.2
  refine x_get C hW (t := 5) (k := 5) t1 kl_5 (by decide) fl_X5_24 (v := rv b0 (mR σ l0 5)) rfl dX5_copyValues_1 ?_
  refine x_iload_n C hl dX5_copyValues_4 rfl ?_
  refine lv_bipush (v := (16 : Int32)) hx hb dX5_copyValues_5 (by decide) ?_
  refine lv_imul hx hb dX5_copyValues_7 ?_
  refine x_aload_n C hl dX5_copyValues_8 rfl ?_
  refine lv_iconst (v := (0 : Int32)) hx hb dX5_copyValues_9 (by decide) ?_
  refine lv_bipush (v := (16 : Int32)) hx hb dX5_copyValues_10 (by decide) ?_
  have t2 := h.1
  replace h := h.2
  have t3 := h.1
  replace h := h.2
  have c4 := h.1
  replace h := h.2
  refine x_copy (index := 31) C hW hS hl.1 (gc4 219 rfl rfl) t2 t3 c4 (by decide) (by decide) dX5_copyValues_12 (fun H locs hW hS => ?_)
  obtain ⟨s5, e_s5⟩ : ∃ z : Mem, z = (sC σ (mR σ l0 5) (l1 * (16 : Int32)).toNatClampNeg l2 (0 : Int32).toNatClampNeg (16 : Int32).toNatClampNeg) := ⟨_, rfl⟩
  replace h := h s5 e_s5
  replace hW : Wd G D tc b0 s5 H := by rw [e_s5]; exact hW
  exact r_v C hr hW hS h dX5_copyValues_15
theorem T_X5_copyValues (l : Launch) {G : Lay} {D : va_G} {tc : Nat → ClassId} {b0 : Nat} (l0 : Nat) (l1 : Int32) (l2 : Nat) (σ : Mem) (Qx : Mem → Prop) (h : X_X5_copyValues G Qx l0 l1 l2 σ) : MV l yX5_copyValues cX5_copyValues 3 ((none : Option FieldType)) rm_X5_copyValues G D tc b0 [rv b0 l0, .int l1, rv b0 l2] σ Qx :=
  x_entry (y := yX5_copyValues) [.inr (.inr l0), .inl l1, .inr (.inr l2)] 0 (by decide) (Nat.le_of_ble_eq_true rfl) (fun p e s m args below meth c ls C hr hW hl => t_X5_copyValues_0 C hr va_S.rf hW (hl.keep [true, true, true] rfl) h)
/-! X5_move -/
set_option maxRecDepth 20000 in
set_option maxHeartbeats 4000000 in
theorem t_X5_move_0 {p : Program} {l : Launch} {e : Env} {s : State} {m : MethodId} {args : Array Value} {below : List Frame} {meth : Method} {c : Code} {H : Heap} {locs : List Loc} {D : va_G} {tc : Nat → ClassId} {b0 : Nat} {ls : Array Slot} {G : Lay} {Qx : Mem → Prop} {l0 : Nat} {l1 : Int32} {l2 : Int32} {l3 : Int32}  {σ : Mem} (C : Cx p s m args meth c cX5_move RX5 4 D tc b0) (hr : meth.sig.returnType = (none : Option FieldType)) (hS : va_S (AA b0) s.heap H locs) (hW : Wd G D tc b0 σ H) (hl : hL b0 ls 4 [some (.inr (.inr l0)), some (.inl l1), some (.inl l2), some (.inl l3)]) (h : X_X5_move_0 G Qx l0 l1 l2 l3  σ) : W p l e rm_X5_move s m args below meth c H locs 0 0 (MQ below (va_Qv Qx (fun u t => Pw G D tc b0 u t) (AA b0)) args s 0 0 (AA b0)) (F0 m 0 ls []) := by
  have hx := C.1
  have hb := C.2.1
  unfold X_X5_move_0 at h
  refine x_aload_n C hl dX5_move_0 rfl ?_
  have t1 := h.1
  replace h := h.2
  refine x_get C hW (t := 5) (k := 2) t1 kl_5 (by decide) fl_X5_15 (v := rv b0 (mR σ l0 2)) rfl dX5_move_1 ?_
  refine x_iload_n C hl dX5_move_4 rfl ?_
  refine x_aload_n C hl dX5_move_5 rfl ?_
  refine x_get C hW (t := 5) (k := 2) t1 kl_5 (by decide) fl_X5_15 (v := rv b0 (mR σ l0 2)) rfl dX5_move_6 ?_
  refine x_iload_n C hl dX5_move_9 rfl ?_
  refine x_iload_n C hl dX5_move_10 rfl ?_
  have t2 := h.1
  replace h := h.2
  have c3 := h.1
  replace h := h.2
  refine x_copy (index := 31) C hW hS hl.1 (gc4 219 rfl rfl) t2 t2 c3 (by decide) (by decide) dX5_move_11 (fun H locs hW hS => ?_)
  obtain ⟨s4, e_s4⟩ : ∃ z : Mem, z = (sC σ (mR σ l0 2) l1.toNatClampNeg (mR σ l0 2) l2.toNatClampNeg l3.toNatClampNeg) := ⟨_, rfl⟩
  replace h := h s4 e_s4
  replace hW : Wd G D tc b0 s4 H := by rw [e_s4]; exact hW
  refine x_aload_n C hl dX5_move_14 rfl ?_
  refine x_get C hW (t := 5) (k := 3) t1 kl_5 (by decide) fl_X5_18 (v := rv b0 (mR s4 l0 3)) rfl dX5_move_15 ?_
  refine x_iload_n C hl dX5_move_18 rfl ?_
  refine x_aload_n C hl dX5_move_19 rfl ?_
  refine x_get C hW (t := 5) (k := 3) t1 kl_5 (by decide) fl_X5_18 (v := rv b0 (mR s4 l0 3)) rfl dX5_move_20 ?_
  refine x_iload_n C hl dX5_move_23 rfl ?_
  refine x_iload_n C hl dX5_move_24 rfl ?_
  have t5 := h.1
  replace h := h.2
  have c6 := h.1
  replace h := h.2
  refine x_copy (index := 31) C hW hS hl.1 (gc4 219 rfl rfl) t5 t5 c6 (by decide) (by decide) dX5_move_25 (fun H locs hW hS => ?_)
  obtain ⟨s7, e_s7⟩ : ∃ z : Mem, z = (sC s4 (mR s4 l0 3) l1.toNatClampNeg (mR s4 l0 3) l2.toNatClampNeg l3.toNatClampNeg) := ⟨_, rfl⟩
  replace h := h s7 e_s7
  replace hW : Wd G D tc b0 s7 H := by rw [e_s7]; exact hW
  refine x_aload_n C hl dX5_move_28 rfl ?_
  refine x_get C hW (t := 5) (k := 4) t1 kl_5 (by decide) fl_X5_21 (v := rv b0 (mR s7 l0 4)) rfl dX5_move_29 ?_
  refine x_iload_n C hl dX5_move_32 rfl ?_
  refine x_aload_n C hl dX5_move_33 rfl ?_
  refine x_get C hW (t := 5) (k := 4) t1 kl_5 (by decide) fl_X5_21 (v := rv b0 (mR s7 l0 4)) rfl dX5_move_34 ?_
  refine x_iload_n C hl dX5_move_37 rfl ?_
  refine x_iload_n C hl dX5_move_38 rfl ?_
  have t8 := h.1
  replace h := h.2
  have c9 := h.1
  replace h := h.2
  refine x_copy (index := 31) C hW hS hl.1 (gc4 219 rfl rfl) t8 t8 c9 (by decide) (by decide) dX5_move_39 (fun H locs hW hS => ?_)
  obtain ⟨s10, e_s10⟩ : ∃ z : Mem, z = (sC s7 (mR s7 l0 4) l1.toNatClampNeg (mR s7 l0 4) l2.toNatClampNeg l3.toNatClampNeg) := ⟨_, rfl⟩
  replace h := h s10 e_s10
  replace hW : Wd G D tc b0 s10 H := by rw [e_s10]; exact hW
  refine x_aload_n C hl dX5_move_42 rfl ?_
  refine x_get C hW (t := 5) (k := 5) t1 kl_5 (by decide) fl_X5_24 (v := rv b0 (mR s10 l0 5)) rfl dX5_move_43 ?_
  refine x_iload_n C hl dX5_move_46 rfl ?_
  refine lv_bipush (v := (16 : Int32)) hx hb dX5_move_47 (by decide) ?_
  refine lv_imul hx hb dX5_move_49 ?_
  refine x_aload_n C hl dX5_move_50 rfl ?_
  refine x_get C hW (t := 5) (k := 5) t1 kl_5 (by decide) fl_X5_24 (v := rv b0 (mR s10 l0 5)) rfl dX5_move_51 ?_
  refine x_iload_n C hl dX5_move_54 rfl ?_
  refine lv_bipush (v := (16 : Int32)) hx hb dX5_move_55 (by decide) ?_
  refine lv_imul hx hb dX5_move_57 ?_
  refine x_iload_n C hl dX5_move_58 rfl ?_
  refine lv_bipush (v := (16 : Int32)) hx hb dX5_move_59 (by decide) ?_
  refine lv_imul hx hb dX5_move_61 ?_
  have t11 := h.1
  replace h := h.2
  have c12 := h.1
  replace h := h.2
  refine x_copy (index := 31) C hW hS hl.1 (gc4 219 rfl rfl) t11 t11 c12 (by decide) (by decide) dX5_move_62 (fun H locs hW hS => ?_)
  obtain ⟨s13, e_s13⟩ : ∃ z : Mem, z = (sC s10 (mR s10 l0 5) (l1 * (16 : Int32)).toNatClampNeg (mR s10 l0 5) (l2 * (16 : Int32)).toNatClampNeg (l3 * (16 : Int32)).toNatClampNeg) := ⟨_, rfl⟩
  replace h := h s13 e_s13
  replace hW : Wd G D tc b0 s13 H := by rw [e_s13]; exact hW
  exact r_v C hr hW hS h dX5_move_65
theorem T_X5_move (l : Launch) {G : Lay} {D : va_G} {tc : Nat → ClassId} {b0 : Nat} (l0 : Nat) (l1 : Int32) (l2 : Int32) (l3 : Int32) (σ : Mem) (Qx : Mem → Prop) (h : X_X5_move G Qx l0 l1 l2 l3 σ) : MV l yX5_move cX5_move 4 ((none : Option FieldType)) rm_X5_move G D tc b0 [rv b0 l0, .int l1, .int l2, .int l3] σ Qx :=
  x_entry (y := yX5_move) [.inr (.inr l0), .inl l1, .inl l2, .inl l3] 0 (by decide) (Nat.le_of_ble_eq_true rfl) (fun p e s m args below meth c ls C hr hW hl => t_X5_move_0 C hr va_S.rf hW (hl.keep [true, true, true, true] rfl) h)
/-! X5_add -/
set_option maxRecDepth 20000 in
set_option maxHeartbeats 4000000 in
theorem t_X5_add_36 {p : Program} {l : Launch} {e : Env} {s : State} {m : MethodId} {args : Array Value} {below : List Frame} {meth : Method} {c : Code} {H : Heap} {locs : List Loc} {D : va_G} {tc : Nat → ClassId} {b0 : Nat} {ls : Array Slot} {G : Lay} {Qx : Int32 → Mem → Prop} {l0 : Nat} {l1 : Int32} {l2 : Int32} {l3 : Int32} {l4 : Int32}  {σ : Mem} (C : Cx p s m args meth c cX5_add RX5 5 D tc b0) (hr : meth.sig.returnType = (some FieldType.int)) (hS : va_S (AA b0) s.heap H locs) (hW : Wd G D tc b0 σ H) (hl : hL b0 ls 5 [some (.inr (.inr l0)), some (.inl l1), some (.inl l2), some (.inl l3), some (.inl l4)]) (h : X_X5_add_36 G Qx l0 l1 l2 l3 l4  σ) : W p l e rm_X5_add s m args below meth c H locs 0 0 (MQ below (va_Qi Qx (fun u t => Pw G D tc b0 u t) (AA b0)) args s 0 0 (AA b0)) (F0 m 36 ls []) := by
  have hx := C.1
  have hb := C.2.1
  unfold X_X5_add_36 at h
  refine x_aload_n C hl dX5_add_36 rfl ?_
  refine x_iload C hl dX5_add_37 rfl ?_
  refine x_iload C hl dX5_add_39 rfl ?_
  refine lv_iconst (v := (1 : Int32)) hx hb dX5_add_41 (by decide) ?_
  refine lv_iadd hx hb dX5_add_42 ?_
  refine x_aload_n C hl dX5_add_43 rfl ?_
  refine x_iload_n C hl dX5_add_44 rfl ?_
  have t1 := h.1
  replace h := h.2
  refine y_i (x_run (As := [.int l1]) C hW hS (T_X5_endOf l l0 l1 σ _ h) t1 kl_5 (CW.of yv_X5_endOf ml_X5_60) ⟨rfl, rfl, ⟨by decide, by decide⟩, by decide, by decide⟩ rfl hl.1 rfl (by simp [rv_cat, cat_i, cat_l]) dX5_add_45) hS (fun w3 s2 H locs h hW hS => ?_)
  refine x_iload C hl dX5_add_48 rfl ?_
  refine lv_isub hx hb dX5_add_50 ?_
  refine y_v (x_run (As := [.int l4, .int (l4 + (1 : Int32)), .int (w3 - l4)]) C hW hS (T_X5_move l l0 l4 (l4 + (1 : Int32)) (w3 - l4) s2 _ h) t1 kl_5 (CW.of yv_X5_move ml_X5_66) ⟨rfl, rfl, ⟨by decide, by decide⟩, by decide, by decide⟩ rfl hl.1 rfl (by decide) dX5_add_51) hS (fun s4 H locs h hW hS => ?_)
  refine x_aload_n C hl dX5_add_54 rfl ?_
  refine x_get C hW (t := 5) (k := 1) t1 kl_5 (by decide) fl_X5_9 (v := rv b0 (mR s4 l0 1)) rfl dX5_add_55 ?_
  refine x_iload_n C hl dX5_add_58 rfl ?_
  refine lv_dup2_11 hx hb dX5_add_59 rfl (rv_cat _ _) ?_
  have t5 := h.1
  replace h := h.2
  have v6 := h.1
  replace h := h.2
  refine x_iald C hW t5 v6 dX5_add_60 ?_
  refine lv_iconst (v := (1 : Int32)) hx hb dX5_add_61 (by decide) ?_
  refine lv_iadd hx hb dX5_add_62 ?_
  refine x_iast C hW hS t5 v6 dX5_add_63 (fun H locs hW hS => ?_)
  obtain ⟨s7, e_s7⟩ : ∃ z : Mem, z = (sI s4 (mR s4 l0 1) l1.toNatClampNeg ((mI s4 (mR s4 l0 1) l1.toNatClampNeg) + (1 : Int32))) := ⟨_, rfl⟩
  replace h := h s7 e_s7
  replace hW : Wd G D tc b0 s7 H := by rw [e_s7]; exact hW
  refine x_aload_n C hl dX5_add_64 rfl ?_
  refine x_get C hW (t := 5) (k := 2) t1 kl_5 (by decide) fl_X5_15 (v := rv b0 (mR s7 l0 2)) rfl dX5_add_65 ?_
  refine x_iload C hl dX5_add_68 rfl ?_
  refine x_iload_n C hl dX5_add_70 rfl ?_
  have t8 := h.1
  replace h := h.2
  have v9 := h.1
  replace h := h.2
  refine x_iast C hW hS t8 v9 dX5_add_71 (fun H locs hW hS => ?_)
  obtain ⟨s10, e_s10⟩ : ∃ z : Mem, z = (sI s7 (mR s7 l0 2) l4.toNatClampNeg l2) := ⟨_, rfl⟩
  replace h := h s10 e_s10
  replace hW : Wd G D tc b0 s10 H := by rw [e_s10]; exact hW
  refine x_aload_n C hl dX5_add_72 rfl ?_
  refine x_get C hW (t := 5) (k := 3) t1 kl_5 (by decide) fl_X5_18 (v := rv b0 (mR s10 l0 3)) rfl dX5_add_73 ?_
  refine x_iload C hl dX5_add_76 rfl ?_
  refine x_iload_n C hl dX5_add_78 rfl ?_
  have t11 := h.1
  replace h := h.2
  have v12 := h.1
  replace h := h.2
  refine x_iast C hW hS t11 v12 dX5_add_79 (fun H locs hW hS => ?_)
  obtain ⟨s13, e_s13⟩ : ∃ z : Mem, z = (sI s10 (mR s10 l0 3) l4.toNatClampNeg l3) := ⟨_, rfl⟩
  replace h := h s13 e_s13
  replace hW : Wd G D tc b0 s13 H := by rw [e_s13]; exact hW
  refine x_aload_n C hl dX5_add_80 rfl ?_
  refine x_get C hW (t := 5) (k := 4) t1 kl_5 (by decide) fl_X5_21 (v := rv b0 (mR s13 l0 4)) rfl dX5_add_81 ?_
  refine x_iload C hl dX5_add_84 rfl ?_
  refine lv_iconst (v := (1 : Int32)) hx hb dX5_add_86 (by decide) ?_
  have t14 := h.1
  replace h := h.2
  have v15 := h.1
  replace h := h.2
  refine x_iast C hW hS t14 v15 dX5_add_87 (fun H locs hW hS => ?_)
  obtain ⟨s16, e_s16⟩ : ∃ z : Mem, z = (sI s13 (mR s13 l0 4) l4.toNatClampNeg (1 : Int32)) := ⟨_, rfl⟩
  replace h := h s16 e_s16
  replace hW : Wd G D tc b0 s16 H := by rw [e_s16]; exact hW
  refine x_iload C hl dX5_add_88 rfl ?_
  exact r_i C hr hW hS h dX5_add_90
set_option maxRecDepth 20000 in
set_option maxHeartbeats 4000000 in
theorem t_X5_add_7_n {p : Program} {l : Launch} {e : Env} {s : State} {m : MethodId} {args : Array Value} {below : List Frame} {meth : Method} {c : Code} {D : va_G} {tc : Nat → ClassId} {b0 : Nat} {G : Lay} {Qx : Int32 → Mem → Prop} {l0 : Nat} {l1 : Int32} {l2 : Int32} {l3 : Int32} (C : Cx p s m args meth c cX5_add RX5 5 D tc b0) (hr : meth.sig.returnType = (some FieldType.int)) (n : Nat) : ∀ (l4 : Int32) (σ : Mem) (H : Heap) (locs : List Loc) (ls : Array Slot), va_S (AA b0) s.heap H locs → Wd G D tc b0 σ H → hL b0 ls 5 [some (.inr (.inr l0)), some (.inl l1), some (.inl l2), some (.inl l3), some (.inl l4)] → Lp (X_X5_add_7_s G Qx l0 l1 l2 l3) n (l4, σ) → W p l e rm_X5_add s m args below meth c H locs 0 0 (MQ below (va_Qi Qx (fun u t => Pw G D tc b0 u t) (AA b0)) args s 0 0 (AA b0)) (F0 m 7 ls []) := by
  have hx := C.1
  have hb := C.2.1
  induction n with
  | zero => intro l4 σ H locs ls hS hW hl h; exact False.elim h
  | succ n hK7 =>
    intro l4 σ H locs ls hS hW hl h
    replace h : X_X5_add_7_s G Qx l0 l1 l2 l3 (Lp (X_X5_add_7_s G Qx l0 l1 l2 l3) n) (l4, σ) := h
    unfold X_X5_add_7_s at h
    refine x_iload C hl dX5_add_7 rfl ?_
    refine x_aload_n C hl dX5_add_9 rfl ?_
    refine x_iload_n C hl dX5_add_10 rfl ?_
    have t1 := h.1
    replace h := h.2
    refine y_i (x_run (As := [.int l1]) C hW hS (T_X5_firstOf l l0 l1 σ _ h) t1 kl_5 (CW.of yv_X5_firstOf ml_X5_63) ⟨rfl, rfl, ⟨by decide, by decide⟩, by decide, by decide⟩ rfl hl.1 rfl (by simp [rv_cat, cat_i, cat_l]) dX5_add_11) hS (fun w3 s2 H locs h hW hS => ?_)
    refine lv_icmp_le hx hb dX5_add_14 (tgt := 36) rfl (fun hc => ?_) (fun hc => ?_)
    · replace h := h.1 hc
      exact t_X5_add_36 C hr hS hW (hl.keep [true, true, true, true, true] rfl) h
    · replace h := h.2 hc
      refine x_aload_n C hl dX5_add_17 rfl ?_
      refine x_get C hW (t := 5) (k := 2) t1 kl_5 (by decide) fl_X5_15 (v := rv b0 (mR s2 l0 2)) rfl dX5_add_18 ?_
      refine x_iload C hl dX5_add_21 rfl ?_
      refine lv_iconst (v := (1 : Int32)) hx hb dX5_add_23 (by decide) ?_
      refine lv_isub hx hb dX5_add_24 ?_
      have t4 := h.1
      replace h := h.2
      have v5 := h.1
      replace h := h.2
      refine x_iald C hW t4 v5 dX5_add_25 ?_
      refine x_iload_n C hl dX5_add_26 rfl ?_
      refine lv_icmp_le hx hb dX5_add_27 (tgt := 36) rfl (fun hc => ?_) (fun hc => ?_)
      · replace h := h.1 hc
        exact t_X5_add_36 C hr hS hW (hl.keep [true, true, true, true, true] rfl) h
      · replace h := h.2 hc
        refine x_iinc C hl dX5_add_30 rfl (v := (-1 : Int32)) (by decide) (by decide) rfl (fun ls hl => ?_)
        refine lv_goto hx hb dX5_add_33 (tgt := 7) rfl ?_
        exact hK7 _ _ _ _ _ hS hW (hl.keep [true, true, true, true, true] rfl) h
set_option maxRecDepth 20000 in
set_option maxHeartbeats 4000000 in
theorem t_X5_add_7 {p : Program} {l : Launch} {e : Env} {s : State} {m : MethodId} {args : Array Value} {below : List Frame} {meth : Method} {c : Code} {H : Heap} {locs : List Loc} {D : va_G} {tc : Nat → ClassId} {b0 : Nat} {ls : Array Slot} {G : Lay} {Qx : Int32 → Mem → Prop} {l0 : Nat} {l1 : Int32} {l2 : Int32} {l3 : Int32} {l4 : Int32}  {σ : Mem} (C : Cx p s m args meth c cX5_add RX5 5 D tc b0) (hr : meth.sig.returnType = (some FieldType.int)) (hS : va_S (AA b0) s.heap H locs) (hW : Wd G D tc b0 σ H) (hl : hL b0 ls 5 [some (.inr (.inr l0)), some (.inl l1), some (.inl l2), some (.inl l3), some (.inl l4)]) (h : X_X5_add_7 G Qx l0 l1 l2 l3 l4 σ) : W p l e rm_X5_add s m args below meth c H locs 0 0 (MQ below (va_Qi Qx (fun u t => Pw G D tc b0 u t) (AA b0)) args s 0 0 (AA b0)) (F0 m 7 ls []) := by
  obtain ⟨n, h⟩ := h
  exact t_X5_add_7_n C hr n l4 σ H locs ls hS hW hl h
set_option maxRecDepth 20000 in
set_option maxHeartbeats 4000000 in
theorem t_X5_add_0 {p : Program} {l : Launch} {e : Env} {s : State} {m : MethodId} {args : Array Value} {below : List Frame} {meth : Method} {c : Code} {H : Heap} {locs : List Loc} {D : va_G} {tc : Nat → ClassId} {b0 : Nat} {ls : Array Slot} {G : Lay} {Qx : Int32 → Mem → Prop} {l0 : Nat} {l1 : Int32} {l2 : Int32} {l3 : Int32}  {σ : Mem} (C : Cx p s m args meth c cX5_add RX5 5 D tc b0) (hr : meth.sig.returnType = (some FieldType.int)) (hS : va_S (AA b0) s.heap H locs) (hW : Wd G D tc b0 σ H) (hl : hL b0 ls 5 [some (.inr (.inr l0)), some (.inl l1), some (.inl l2), some (.inl l3), none]) (h : X_X5_add_0 G Qx l0 l1 l2 l3  σ) : W p l e rm_X5_add s m args below meth c H locs 0 0 (MQ below (va_Qi Qx (fun u t => Pw G D tc b0 u t) (AA b0)) args s 0 0 (AA b0)) (F0 m 0 ls []) := by
  have hx := C.1
  have hb := C.2.1
  unfold X_X5_add_0 at h
  refine x_aload_n C hl dX5_add_0 rfl ?_
  refine x_iload_n C hl dX5_add_1 rfl ?_
  have t1 := h.1
  replace h := h.2
  refine y_i (x_run (As := [.int l1]) C hW hS (T_X5_endOf l l0 l1 σ _ h) t1 kl_5 (CW.of yv_X5_endOf ml_X5_60) ⟨rfl, rfl, ⟨by decide, by decide⟩, by decide, by decide⟩ rfl hl.1 rfl (by decide) dX5_add_2) hS (fun w3 s2 H locs h hW hS => ?_)
  refine x_istore C hl dX5_add_5 (by decide) rfl (fun ls hl => ?_)
  exact t_X5_add_7 C hr hS hW (hl.keep [true, true, true, true, true] rfl) h
theorem T_X5_add (l : Launch) {G : Lay} {D : va_G} {tc : Nat → ClassId} {b0 : Nat} (l0 : Nat) (l1 : Int32) (l2 : Int32) (l3 : Int32) (σ : Mem) (Qx : Int32 → Mem → Prop) (h : X_X5_add G Qx l0 l1 l2 l3 σ) : MI l yX5_add cX5_add 5 ((some FieldType.int)) rm_X5_add G D tc b0 [rv b0 l0, .int l1, .int l2, .int l3] σ Qx :=
  x_entry (y := yX5_add) [.inr (.inr l0), .inl l1, .inl l2, .inl l3] 1 (by decide) (Nat.le_of_ble_eq_true rfl) (fun p e s m args below meth c ls C hr hW hl => t_X5_add_0 C hr va_S.rf hW (hl.keep [true, true, true, true, false] rfl) h)
/-! X5_remove -/
set_option maxRecDepth 20000 in
set_option maxHeartbeats 4000000 in
theorem t_X5_remove_0 {p : Program} {l : Launch} {e : Env} {s : State} {m : MethodId} {args : Array Value} {below : List Frame} {meth : Method} {c : Code} {H : Heap} {locs : List Loc} {D : va_G} {tc : Nat → ClassId} {b0 : Nat} {ls : Array Slot} {G : Lay} {Qx : Mem → Prop} {l0 : Nat} {l1 : Int32} {l2 : Int32}  {σ : Mem} (C : Cx p s m args meth c cX5_remove RX5 3 D tc b0) (hr : meth.sig.returnType = (none : Option FieldType)) (hS : va_S (AA b0) s.heap H locs) (hW : Wd G D tc b0 σ H) (hl : hL b0 ls 3 [some (.inr (.inr l0)), some (.inl l1), some (.inl l2)]) (h : X_X5_remove_0 G Qx l0 l1 l2  σ) : W p l e rm_X5_remove s m args below meth c H locs 0 0 (MQ below (va_Qv Qx (fun u t => Pw G D tc b0 u t) (AA b0)) args s 0 0 (AA b0)) (F0 m 0 ls []) := by
  have hx := C.1
  have hb := C.2.1
  unfold X_X5_remove_0 at h
  refine x_aload_n C hl dX5_remove_0 rfl ?_
  refine x_iload_n C hl dX5_remove_1 rfl ?_
  refine lv_iconst (v := (1 : Int32)) hx hb dX5_remove_2 (by decide) ?_
  refine lv_iadd hx hb dX5_remove_3 ?_
  refine x_iload_n C hl dX5_remove_4 rfl ?_
  refine x_aload_n C hl dX5_remove_5 rfl ?_
  refine x_iload_n C hl dX5_remove_6 rfl ?_
  have t1 := h.1
  replace h := h.2
  refine y_i (x_run (As := [.int l1]) C hW hS (T_X5_endOf l l0 l1 σ _ h) t1 kl_5 (CW.of yv_X5_endOf ml_X5_60) ⟨rfl, rfl, ⟨by decide, by decide⟩, by decide, by decide⟩ rfl hl.1 rfl (by simp [rv_cat, cat_i, cat_l]) dX5_remove_7) hS (fun w3 s2 H locs h hW hS => ?_)
  refine x_iload_n C hl dX5_remove_10 rfl ?_
  refine lv_isub hx hb dX5_remove_11 ?_
  refine lv_iconst (v := (1 : Int32)) hx hb dX5_remove_12 (by decide) ?_
  refine lv_isub hx hb dX5_remove_13 ?_
  refine y_v (x_run (As := [.int (l2 + (1 : Int32)), .int l2, .int ((w3 - l2) - (1 : Int32))]) C hW hS (T_X5_move l l0 (l2 + (1 : Int32)) l2 ((w3 - l2) - (1 : Int32)) s2 _ h) t1 kl_5 (CW.of yv_X5_move ml_X5_66) ⟨rfl, rfl, ⟨by decide, by decide⟩, by decide, by decide⟩ rfl hl.1 rfl (by decide) dX5_remove_14) hS (fun s4 H locs h hW hS => ?_)
  refine x_aload_n C hl dX5_remove_17 rfl ?_
  refine x_get C hW (t := 5) (k := 1) t1 kl_5 (by decide) fl_X5_9 (v := rv b0 (mR s4 l0 1)) rfl dX5_remove_18 ?_
  refine x_iload_n C hl dX5_remove_21 rfl ?_
  refine lv_dup2_11 hx hb dX5_remove_22 rfl (rv_cat _ _) ?_
  have t5 := h.1
  replace h := h.2
  have v6 := h.1
  replace h := h.2
  refine x_iald C hW t5 v6 dX5_remove_23 ?_
  refine lv_iconst (v := (1 : Int32)) hx hb dX5_remove_24 (by decide) ?_
  refine lv_isub hx hb dX5_remove_25 ?_
  refine x_iast C hW hS t5 v6 dX5_remove_26 (fun H locs hW hS => ?_)
  obtain ⟨s7, e_s7⟩ : ∃ z : Mem, z = (sI s4 (mR s4 l0 1) l1.toNatClampNeg ((mI s4 (mR s4 l0 1) l1.toNatClampNeg) - (1 : Int32))) := ⟨_, rfl⟩
  replace h := h s7 e_s7
  replace hW : Wd G D tc b0 s7 H := by rw [e_s7]; exact hW
  exact r_v C hr hW hS h dX5_remove_27
theorem T_X5_remove (l : Launch) {G : Lay} {D : va_G} {tc : Nat → ClassId} {b0 : Nat} (l0 : Nat) (l1 : Int32) (l2 : Int32) (σ : Mem) (Qx : Mem → Prop) (h : X_X5_remove G Qx l0 l1 l2 σ) : MV l yX5_remove cX5_remove 3 ((none : Option FieldType)) rm_X5_remove G D tc b0 [rv b0 l0, .int l1, .int l2] σ Qx :=
  x_entry (y := yX5_remove) [.inr (.inr l0), .inl l1, .inl l2] 0 (by decide) (Nat.le_of_ble_eq_true rfl) (fun p e s m args below meth c ls C hr hW hl => t_X5_remove_0 C hr va_S.rf hW (hl.keep [true, true, true] rfl) h)
/-! X5_isTaken -/
set_option maxRecDepth 20000 in
set_option maxHeartbeats 4000000 in
theorem t_X5_isTaken_78 {p : Program} {l : Launch} {e : Env} {s : State} {m : MethodId} {args : Array Value} {below : List Frame} {meth : Method} {c : Code} {H : Heap} {locs : List Loc} {D : va_G} {tc : Nat → ClassId} {b0 : Nat} {ls : Array Slot} {G : Lay} {Qx : Int32 → Mem → Prop} {l0 : Nat} {l1 : Nat} {l2 : Int32} {l3 : Int32} {l4 : Int32} {l5 : Int32} {l6 : Int32}  {K21 : Int32 × Mem → Prop} {σ : Mem} (C : Cx p s m args meth c cX5_isTaken RX5 7 D tc b0) (hr : meth.sig.returnType = (some FieldType.boolean)) (hK21 : ∀ (x6 : Int32) (σ : Mem) (H : Heap) (locs : List Loc) (ls : Array Slot), va_S (AA b0) s.heap H locs → Wd G D tc b0 σ H → hL b0 ls 7 [some (.inr (.inr l0)), some (.inr (.inr l1)), some (.inl l2), some (.inl l3), some (.inl l4), some (.inl l5), some (.inl x6)] → K21 (x6, σ) → W p l e rm_X5_isTaken s m args below meth c H locs 0 0 (MQ below (va_Qi Qx (fun u t => Pw G D tc b0 u t) (AA b0)) args s 0 0 (AA b0)) (F0 m 21 ls [])) (hS : va_S (AA b0) s.heap H locs) (hW : Wd G D tc b0 σ H) (hl : hL b0 ls 7 [some (.inr (.inr l0)), some (.inr (.inr l1)), some (.inl l2), some (.inl l3), some (.inl l4), some (.inl l5), some (.inl l6)]) (h : X_X5_isTaken_78 G Qx K21 l0 l1 l2 l3 l4 l5 l6  σ) : W p l e rm_X5_isTaken s m args below meth c H locs 0 0 (MQ below (va_Qi Qx (fun u t => Pw G D tc b0 u t) (AA b0)) args s 0 0 (AA b0)) (F0 m 78 ls []) := by
  have hx := C.1
  have hb := C.2.1
  unfold X_X5_isTaken_78 at h
  refine x_iinc C hl dX5_isTaken_78 rfl (v := (1 : Int32)) (by decide) (by decide) rfl (fun ls hl => ?_)
  refine lv_goto hx hb dX5_isTaken_81 (tgt := 21) rfl ?_
  exact hK21 _ _ _ _ _ hS hW (hl.keep [true, true, true, true, true, true, true] rfl) h
set_option maxRecDepth 20000 in
set_option maxHeartbeats 4000000 in
theorem t_X5_isTaken_21_n {p : Program} {l : Launch} {e : Env} {s : State} {m : MethodId} {args : Array Value} {below : List Frame} {meth : Method} {c : Code} {D : va_G} {tc : Nat → ClassId} {b0 : Nat} {G : Lay} {Qx : Int32 → Mem → Prop} {l0 : Nat} {l1 : Nat} {l2 : Int32} {l3 : Int32} {l4 : Int32} {l5 : Int32} (C : Cx p s m args meth c cX5_isTaken RX5 7 D tc b0) (hr : meth.sig.returnType = (some FieldType.boolean)) (n : Nat) : ∀ (l6 : Int32) (σ : Mem) (H : Heap) (locs : List Loc) (ls : Array Slot), va_S (AA b0) s.heap H locs → Wd G D tc b0 σ H → hL b0 ls 7 [some (.inr (.inr l0)), some (.inr (.inr l1)), some (.inl l2), some (.inl l3), some (.inl l4), some (.inl l5), some (.inl l6)] → Lp (X_X5_isTaken_21_s G Qx l0 l1 l2 l3 l4 l5) n (l6, σ) → W p l e rm_X5_isTaken s m args below meth c H locs 0 0 (MQ below (va_Qi Qx (fun u t => Pw G D tc b0 u t) (AA b0)) args s 0 0 (AA b0)) (F0 m 21 ls []) := by
  have hx := C.1
  have hb := C.2.1
  induction n with
  | zero => intro l6 σ H locs ls hS hW hl h; exact False.elim h
  | succ n hK21 =>
    intro l6 σ H locs ls hS hW hl h
    replace h : X_X5_isTaken_21_s G Qx l0 l1 l2 l3 l4 l5 (Lp (X_X5_isTaken_21_s G Qx l0 l1 l2 l3 l4 l5) n) (l6, σ) := h
    unfold X_X5_isTaken_21_s at h
    refine x_iload C hl dX5_isTaken_21 rfl ?_
    refine x_aload_n C hl dX5_isTaken_23 rfl ?_
    refine x_iload C hl dX5_isTaken_24 rfl ?_
    have t1 := h.1
    replace h := h.2
    refine y_i (x_run (As := [.int l5]) C hW hS (T_X5_endOf l l0 l5 σ _ h) t1 kl_5 (CW.of yv_X5_endOf ml_X5_60) ⟨rfl, rfl, ⟨by decide, by decide⟩, by decide, by decide⟩ rfl hl.1 rfl (by simp [rv_cat, cat_i, cat_l]) dX5_isTaken_26) hS (fun w3 s2 H locs h hW hS => ?_)
    refine lv_icmp_ge hx hb dX5_isTaken_29 (tgt := 84) rfl (fun hc => ?_) (fun hc => ?_)
    · replace h := h.1 hc
      refine lv_iconst (v := (0 : Int32)) hx hb dX5_isTaken_84 (by decide) ?_
      exact r_z C hr hW hS h.1 h.2 dX5_isTaken_85
    · replace h := h.2 hc
      refine x_aload_n C hl dX5_isTaken_32 rfl ?_
      refine x_get C hW (t := 5) (k := 2) t1 kl_5 (by decide) fl_X5_15 (v := rv b0 (mR s2 l0 2)) rfl dX5_isTaken_33 ?_
      refine x_iload C hl dX5_isTaken_36 rfl ?_
      have t4 := h.1
      replace h := h.2
      have v5 := h.1
      replace h := h.2
      refine x_iald C hW t4 v5 dX5_isTaken_38 ?_
      refine x_iload_n C hl dX5_isTaken_39 rfl ?_
      refine lv_icmp_eq hx hb dX5_isTaken_40 (tgt := 78) rfl (fun hc => ?_) (fun hc => ?_)
      · replace h := h.1 hc
        exact t_X5_isTaken_78 C hr hK21 hS hW (hl.keep [true, true, true, true, true, true, true] rfl) h
      · replace h := h.2 hc
        refine x_aload_n C hl dX5_isTaken_43 rfl ?_
        refine x_get C hW (t := 5) (k := 0) t1 kl_5 (by decide) fl_X5_27 (v := rv b0 (mR s2 l0 0)) rfl dX5_isTaken_44 ?_
        refine x_aload_n C hl dX5_isTaken_47 rfl ?_
        refine x_get C hW (t := 5) (k := 3) t1 kl_5 (by decide) fl_X5_18 (v := rv b0 (mR s2 l0 3)) rfl dX5_isTaken_48 ?_
        refine x_iload C hl dX5_isTaken_51 rfl ?_
        have t6 := h.1
        replace h := h.2
        have v7 := h.1
        replace h := h.2
        refine x_iald C hW t6 v7 dX5_isTaken_53 ?_
        refine x_aload_n C hl dX5_isTaken_54 rfl ?_
        have t8 := h.1
        replace h := h.2
        refine x_get C hW (t := 2) (k := 1) t8 kl_2 (by decide) fl_X5_84 (v := .int (mI s2 l1 1)) rfl dX5_isTaken_55 ?_
        have t9 := h.1
        replace h := h.2
        refine y_i (x_run (As := [.int (mI s2 (mR s2 l0 3) l6.toNatClampNeg), .int (mI s2 l1 1)]) C hW hS (T_X6_isOf l (mR s2 l0 0) (mI s2 (mR s2 l0 3) l6.toNatClampNeg) (mI s2 l1 1) s2 _ h) t9 kl_6 (CW.of yv_X6_isOf ml_X5_87) ⟨rfl, rfl, ⟨by decide, by decide⟩, by decide, by decide⟩ rfl hl.1 rfl (by decide) dX5_isTaken_58) hS (fun w11 s10 H locs h hW hS => ?_)
        refine lv_if_eq hx hb dX5_isTaken_61 (tgt := 78) rfl (fun hc => ?_) (fun hc => ?_)
        · replace h := h.1 hc
          exact t_X5_isTaken_78 C hr hK21 hS hW (hl.keep [true, true, true, true, true, true, true] rfl) h
        · replace h := h.2 hc
          refine x_aload_n C hl dX5_isTaken_64 rfl ?_
          refine x_iload C hl dX5_isTaken_65 rfl ?_
          refine x_iload_n C hl dX5_isTaken_67 rfl ?_
          refine y_i (x_run (As := [.int l6, .int l3]) C hW hS (T_X5_get l l0 l6 l3 s10 _ h) t1 kl_5 (CW.of yv_X5_get ml_X5_43) ⟨rfl, rfl, ⟨by decide, by decide⟩, by decide, by decide⟩ rfl hl.1 rfl (by decide) dX5_isTaken_68) hS (fun w13 s12 H locs h hW hS => ?_)
          refine x_iload C hl dX5_isTaken_71 rfl ?_
          refine lv_icmp_ne hx hb dX5_isTaken_73 (tgt := 78) rfl (fun hc => ?_) (fun hc => ?_)
          · replace h := h.2 hc
            exact t_X5_isTaken_78 C hr hK21 hS hW (hl.keep [true, true, true, true, true, true, true] rfl) h
          · replace h := h.1 hc
            refine lv_iconst (v := (1 : Int32)) hx hb dX5_isTaken_76 (by decide) ?_
            exact r_z C hr hW hS h.1 h.2 dX5_isTaken_77
set_option maxRecDepth 20000 in
set_option maxHeartbeats 4000000 in
theorem t_X5_isTaken_21 {p : Program} {l : Launch} {e : Env} {s : State} {m : MethodId} {args : Array Value} {below : List Frame} {meth : Method} {c : Code} {H : Heap} {locs : List Loc} {D : va_G} {tc : Nat → ClassId} {b0 : Nat} {ls : Array Slot} {G : Lay} {Qx : Int32 → Mem → Prop} {l0 : Nat} {l1 : Nat} {l2 : Int32} {l3 : Int32} {l4 : Int32} {l5 : Int32} {l6 : Int32}  {σ : Mem} (C : Cx p s m args meth c cX5_isTaken RX5 7 D tc b0) (hr : meth.sig.returnType = (some FieldType.boolean)) (hS : va_S (AA b0) s.heap H locs) (hW : Wd G D tc b0 σ H) (hl : hL b0 ls 7 [some (.inr (.inr l0)), some (.inr (.inr l1)), some (.inl l2), some (.inl l3), some (.inl l4), some (.inl l5), some (.inl l6)]) (h : X_X5_isTaken_21 G Qx l0 l1 l2 l3 l4 l5 l6 σ) : W p l e rm_X5_isTaken s m args below meth c H locs 0 0 (MQ below (va_Qi Qx (fun u t => Pw G D tc b0 u t) (AA b0)) args s 0 0 (AA b0)) (F0 m 21 ls []) := by
  obtain ⟨n, h⟩ := h
  exact t_X5_isTaken_21_n C hr n l6 σ H locs ls hS hW hl h
set_option maxRecDepth 20000 in
set_option maxHeartbeats 4000000 in
theorem t_X5_isTaken_0 {p : Program} {l : Launch} {e : Env} {s : State} {m : MethodId} {args : Array Value} {below : List Frame} {meth : Method} {c : Code} {H : Heap} {locs : List Loc} {D : va_G} {tc : Nat → ClassId} {b0 : Nat} {ls : Array Slot} {G : Lay} {Qx : Int32 → Mem → Prop} {l0 : Nat} {l1 : Nat} {l2 : Int32} {l3 : Int32} {l4 : Int32}  {σ : Mem} (C : Cx p s m args meth c cX5_isTaken RX5 7 D tc b0) (hr : meth.sig.returnType = (some FieldType.boolean)) (hS : va_S (AA b0) s.heap H locs) (hW : Wd G D tc b0 σ H) (hl : hL b0 ls 7 [some (.inr (.inr l0)), some (.inr (.inr l1)), some (.inl l2), some (.inl l3), some (.inl l4), none, none]) (h : X_X5_isTaken_0 G Qx l0 l1 l2 l3 l4  σ) : W p l e rm_X5_isTaken s m args below meth c H locs 0 0 (MQ below (va_Qi Qx (fun u t => Pw G D tc b0 u t) (AA b0)) args s 0 0 (AA b0)) (F0 m 0 ls []) := by
  have hx := C.1
  have hb := C.2.1
  unfold X_X5_isTaken_0 at h
  refine x_aload_n C hl dX5_isTaken_0 rfl ?_
  have t1 := h.1
  replace h := h.2
  refine x_get C hW (t := 5) (k := 0) t1 kl_5 (by decide) fl_X5_27 (v := rv b0 (mR σ l0 0)) rfl dX5_isTaken_1 ?_
  refine x_aload_n C hl dX5_isTaken_4 rfl ?_
  have t2 := h.1
  replace h := h.2
  refine x_get C hW (t := 2) (k := 1) t2 kl_2 (by decide) fl_X5_84 (v := .int (mI σ l1 1)) rfl dX5_isTaken_5 ?_
  have t3 := h.1
  replace h := h.2
  refine y_i (x_run (As := [.int (mI σ l1 1)]) C hW hS (T_X6_rootOf l (mR σ l0 0) (mI σ l1 1) σ _ h) t3 kl_6 (CW.of yv_X6_rootOf ml_X5_53) ⟨rfl, rfl, ⟨by decide, by decide⟩, by decide, by decide⟩ rfl hl.1 rfl (by decide) dX5_isTaken_8) hS (fun w5 s4 H locs h hW hS => ?_)
  refine x_istore C hl dX5_isTaken_11 (by decide) rfl (fun ls hl => ?_)
  refine x_aload_n C hl dX5_isTaken_13 rfl ?_
  refine x_iload C hl dX5_isTaken_14 rfl ?_
  refine y_i (x_run (As := [.int w5]) C hW hS (T_X5_firstOf l l0 w5 s4 _ h) t1 kl_5 (CW.of yv_X5_firstOf ml_X5_63) ⟨rfl, rfl, ⟨by decide, by decide⟩, by decide, by decide⟩ rfl hl.1 rfl (by decide) dX5_isTaken_16) hS (fun w7 s6 H locs h hW hS => ?_)
  refine x_istore C hl dX5_isTaken_19 (by decide) rfl (fun ls hl => ?_)
  exact t_X5_isTaken_21 C hr hS hW (hl.keep [true, true, true, true, true, true, true] rfl) h
theorem T_X5_isTaken (l : Launch) {G : Lay} {D : va_G} {tc : Nat → ClassId} {b0 : Nat} (l0 : Nat) (l1 : Nat) (l2 : Int32) (l3 : Int32) (l4 : Int32) (σ : Mem) (Qx : Int32 → Mem → Prop) (h : X_X5_isTaken G Qx l0 l1 l2 l3 l4 σ) : MI l yX5_isTaken cX5_isTaken 7 ((some FieldType.boolean)) rm_X5_isTaken G D tc b0 [rv b0 l0, rv b0 l1, .int l2, .int l3, .int l4] σ Qx :=
  x_entry (y := yX5_isTaken) [.inr (.inr l0), .inr (.inr l1), .inl l2, .inl l3, .inl l4] 2 (by decide) (Nat.le_of_ble_eq_true rfl) (fun p e s m args below meth c ls C hr hW hl => t_X5_isTaken_0 C hr va_S.rf hW (hl.keep [true, true, true, true, true, false, false] rfl) h)
/-! X5_leads -/
set_option maxRecDepth 20000 in
set_option maxHeartbeats 4000000 in
theorem t_X5_leads_87 {p : Program} {l : Launch} {e : Env} {s : State} {m : MethodId} {args : Array Value} {below : List Frame} {meth : Method} {c : Code} {H : Heap} {locs : List Loc} {D : va_G} {tc : Nat → ClassId} {b0 : Nat} {ls : Array Slot} {G : Lay} {Qx : Int32 → Mem → Prop}  {k0 : Int32} {σ : Mem} (C : Cx p s m args meth c cX5_leads RX5 7 D tc b0) (hr : meth.sig.returnType = (some FieldType.boolean)) (hS : va_S (AA b0) s.heap H locs) (hW : Wd G D tc b0 σ H) (hl : hL b0 ls 7 [none, none, none, none, none, none, none]) (h : X_X5_leads_87 G Qx  k0 σ) : W p l e rm_X5_leads s m args below meth c H locs 0 0 (MQ below (va_Qi Qx (fun u t => Pw G D tc b0 u t) (AA b0)) args s 0 0 (AA b0)) (F0 m 87 ls [.int k0]) := by
  have hx := C.1
  have hb := C.2.1
  unfold X_X5_leads_87 at h
  exact r_z C hr hW hS h.1 h.2 dX5_leads_87
set_option maxRecDepth 20000 in
set_option maxHeartbeats 4000000 in
theorem t_X5_leads_86 {p : Program} {l : Launch} {e : Env} {s : State} {m : MethodId} {args : Array Value} {below : List Frame} {meth : Method} {c : Code} {H : Heap} {locs : List Loc} {D : va_G} {tc : Nat → ClassId} {b0 : Nat} {ls : Array Slot} {G : Lay} {Qx : Int32 → Mem → Prop}   {σ : Mem} (C : Cx p s m args meth c cX5_leads RX5 7 D tc b0) (hr : meth.sig.returnType = (some FieldType.boolean)) (hS : va_S (AA b0) s.heap H locs) (hW : Wd G D tc b0 σ H) (hl : hL b0 ls 7 [none, none, none, none, none, none, none]) (h : X_X5_leads_86 G Qx   σ) : W p l e rm_X5_leads s m args below meth c H locs 0 0 (MQ below (va_Qi Qx (fun u t => Pw G D tc b0 u t) (AA b0)) args s 0 0 (AA b0)) (F0 m 86 ls []) := by
  have hx := C.1
  have hb := C.2.1
  unfold X_X5_leads_86 at h
  refine lv_iconst (v := (0 : Int32)) hx hb dX5_leads_86 (by decide) ?_
  exact t_X5_leads_87 C hr hS hW (hl.keep [false, false, false, false, false, false, false] rfl) h
set_option maxRecDepth 20000 in
set_option maxHeartbeats 4000000 in
theorem t_X5_leads_45 {p : Program} {l : Launch} {e : Env} {s : State} {m : MethodId} {args : Array Value} {below : List Frame} {meth : Method} {c : Code} {H : Heap} {locs : List Loc} {D : va_G} {tc : Nat → ClassId} {b0 : Nat} {ls : Array Slot} {G : Lay} {Qx : Int32 → Mem → Prop} {l0 : Nat} {l1 : Nat} {l4 : Int32} {l5 : Int32}  {σ : Mem} (C : Cx p s m args meth c cX5_leads RX5 7 D tc b0) (hr : meth.sig.returnType = (some FieldType.boolean)) (hS : va_S (AA b0) s.heap H locs) (hW : Wd G D tc b0 σ H) (hl : hL b0 ls 7 [some (.inr (.inr l0)), some (.inr (.inr l1)), none, none, some (.inl l4), some (.inl l5), none]) (h : X_X5_leads_45 G Qx l0 l1 l4 l5  σ) : W p l e rm_X5_leads s m args below meth c H locs 0 0 (MQ below (va_Qi Qx (fun u t => Pw G D tc b0 u t) (AA b0)) args s 0 0 (AA b0)) (F0 m 45 ls []) := by
  have hx := C.1
  have hb := C.2.1
  unfold X_X5_leads_45 at h
  refine x_aload_n C hl dX5_leads_45 rfl ?_
  refine x_iload C hl dX5_leads_46 rfl ?_
  refine x_iload C hl dX5_leads_48 rfl ?_
  have t1 := h.1
  replace h := h.2
  refine y_i (x_run (As := [.int l5, .int l4]) C hW hS (T_X5_rowOf l l0 l5 l4 σ _ h) t1 kl_5 (CW.of yv_X5_rowOf ml_X5_57) ⟨rfl, rfl, ⟨by decide, by decide⟩, by decide, by decide⟩ rfl hl.1 rfl (by decide) dX5_leads_50) hS (fun w3 s2 H locs h hW hS => ?_)
  refine x_istore C hl dX5_leads_53 (by decide) rfl (fun ls hl => ?_)
  refine x_iload C hl dX5_leads_55 rfl ?_
  refine lv_iconst (v := (-1 : Int32)) hx hb dX5_leads_57 (by decide) ?_
  refine lv_icmp_eq hx hb dX5_leads_58 (tgt := 86) rfl (fun hc => ?_) (fun hc => ?_)
  · replace h := h.1 hc
    exact t_X5_leads_86 C hr hS hW (hl.keep [false, false, false, false, false, false, false] rfl) h
  · replace h := h.2 hc
    refine x_aload_n C hl dX5_leads_61 rfl ?_
    refine x_get C hW (t := 5) (k := 0) t1 kl_5 (by decide) fl_X5_27 (v := rv b0 (mR s2 l0 0)) rfl dX5_leads_62 ?_
    refine x_aload_n C hl dX5_leads_65 rfl ?_
    refine x_get C hW (t := 5) (k := 3) t1 kl_5 (by decide) fl_X5_18 (v := rv b0 (mR s2 l0 3)) rfl dX5_leads_66 ?_
    refine x_iload C hl dX5_leads_69 rfl ?_
    have t4 := h.1
    replace h := h.2
    have v5 := h.1
    replace h := h.2
    refine x_iald C hW t4 v5 dX5_leads_71 ?_
    refine x_aload_n C hl dX5_leads_72 rfl ?_
    have t6 := h.1
    replace h := h.2
    refine x_get C hW (t := 2) (k := 8) t6 kl_2 (by decide) fl_X5_47 (v := .int (mI s2 l1 8)) rfl dX5_leads_73 ?_
    have t7 := h.1
    replace h := h.2
    refine y_i (x_run (As := [.int (mI s2 (mR s2 l0 3) w3.toNatClampNeg), .int (mI s2 l1 8)]) C hW hS (T_X6_isOf l (mR s2 l0 0) (mI s2 (mR s2 l0 3) w3.toNatClampNeg) (mI s2 l1 8) s2 _ h) t7 kl_6 (CW.of yv_X6_isOf ml_X5_87) ⟨rfl, rfl, ⟨by decide, by decide⟩, by decide, by decide⟩ rfl hl.1 rfl (by decide) dX5_leads_76) hS (fun w9 s8 H locs h hW hS => ?_)
    refine lv_if_eq hx hb dX5_leads_79 (tgt := 86) rfl (fun hc => ?_) (fun hc => ?_)
    · replace h := h.1 hc
      exact t_X5_leads_86 C hr hS hW (hl.keep [false, false, false, false, false, false, false] rfl) h
    · replace h := h.2 hc
      refine lv_iconst (v := (1 : Int32)) hx hb dX5_leads_82 (by decide) ?_
      refine lv_goto hx hb dX5_leads_83 (tgt := 87) rfl ?_
      exact t_X5_leads_87 C hr hS hW (hl.keep [false, false, false, false, false, false, false] rfl) h
set_option maxRecDepth 20000 in
set_option maxHeartbeats 4000000 in
theorem t_X5_leads_0 {p : Program} {l : Launch} {e : Env} {s : State} {m : MethodId} {args : Array Value} {below : List Frame} {meth : Method} {c : Code} {H : Heap} {locs : List Loc} {D : va_G} {tc : Nat → ClassId} {b0 : Nat} {ls : Array Slot} {G : Lay} {Qx : Int32 → Mem → Prop} {l0 : Nat} {l1 : Nat} {l2 : Int32} {l3 : Int32} {l4 : Int32}  {σ : Mem} (C : Cx p s m args meth c cX5_leads RX5 7 D tc b0) (hr : meth.sig.returnType = (some FieldType.boolean)) (hS : va_S (AA b0) s.heap H locs) (hW : Wd G D tc b0 σ H) (hl : hL b0 ls 7 [some (.inr (.inr l0)), some (.inr (.inr l1)), some (.inl l2), some (.inl l3), some (.inl l4), none, none]) (h : X_X5_leads_0 G Qx l0 l1 l2 l3 l4  σ) : W p l e rm_X5_leads s m args below meth c H locs 0 0 (MQ below (va_Qi Qx (fun u t => Pw G D tc b0 u t) (AA b0)) args s 0 0 (AA b0)) (F0 m 0 ls []) := by
  have hx := C.1
  have hb := C.2.1
  unfold X_X5_leads_0 at h
  refine x_aload_n C hl dX5_leads_0 rfl ?_
  have t1 := h.1
  replace h := h.2
  refine x_get C hW (t := 5) (k := 0) t1 kl_5 (by decide) fl_X5_27 (v := rv b0 (mR σ l0 0)) rfl dX5_leads_1 ?_
  refine x_aload_n C hl dX5_leads_4 rfl ?_
  have t2 := h.1
  replace h := h.2
  refine x_get C hW (t := 2) (k := 8) t2 kl_2 (by decide) fl_X5_47 (v := .int (mI σ l1 8)) rfl dX5_leads_5 ?_
  have t3 := h.1
  replace h := h.2
  refine y_i (x_run (As := [.int (mI σ l1 8)]) C hW hS (T_X6_rootOf l (mR σ l0 0) (mI σ l1 8) σ _ h) t3 kl_6 (CW.of yv_X6_rootOf ml_X5_53) ⟨rfl, rfl, ⟨by decide, by decide⟩, by decide, by decide⟩ rfl hl.1 rfl (by decide) dX5_leads_8) hS (fun w5 s4 H locs h hW hS => ?_)
  refine x_istore C hl dX5_leads_11 (by decide) rfl (fun ls hl => ?_)
  refine x_iload C hl dX5_leads_13 rfl ?_
  refine x_iload_n C hl dX5_leads_15 rfl ?_
  refine lv_icmp_ne hx hb dX5_leads_16 (tgt := 45) rfl (fun hc => ?_) (fun hc => ?_)
  · replace h := h.2 hc
    exact t_X5_leads_45 C hr hS hW (hl.keep [true, true, false, false, true, true, false] rfl) h
  · replace h := h.1 hc
    refine x_iload C hl dX5_leads_19 rfl ?_
    refine x_aload_n C hl dX5_leads_21 rfl ?_
    refine x_get C hW (t := 5) (k := 0) t1 kl_5 (by decide) fl_X5_27 (v := rv b0 (mR s4 l0 0)) rfl dX5_leads_22 ?_
    refine x_iload_n C hl dX5_leads_25 rfl ?_
    have t6 := h.1
    replace h := h.2
    refine y_i (x_run (As := [.int l2]) C hW hS (T_X6_rootOf l (mR s4 l0 0) l2 s4 _ h) t6 kl_6 (CW.of yv_X6_rootOf ml_X5_53) ⟨rfl, rfl, ⟨by decide, by decide⟩, by decide, by decide⟩ rfl hl.1 rfl (by simp [rv_cat, cat_i, cat_l]) dX5_leads_26) hS (fun w8 s7 H locs h hW hS => ?_)
    refine lv_icmp_ne hx hb dX5_leads_29 (tgt := 45) rfl (fun hc => ?_) (fun hc => ?_)
    · replace h := h.2 hc
      exact t_X5_leads_45 C hr hS hW (hl.keep [true, true, false, false, true, true, false] rfl) h
    · replace h := h.1 hc
      refine x_aload_n C hl dX5_leads_32 rfl ?_
      refine x_get C hW (t := 5) (k := 0) t1 kl_5 (by decide) fl_X5_27 (v := rv b0 (mR s7 l0 0)) rfl dX5_leads_33 ?_
      refine x_iload_n C hl dX5_leads_36 rfl ?_
      refine x_aload_n C hl dX5_leads_37 rfl ?_
      refine x_get C hW (t := 2) (k := 8) t2 kl_2 (by decide) fl_X5_47 (v := .int (mI s7 l1 8)) rfl dX5_leads_38 ?_
      have t9 := h.1
      replace h := h.2
      refine y_i (x_run (As := [.int l2, .int (mI s7 l1 8)]) C hW hS (T_X6_isOf l (mR s7 l0 0) l2 (mI s7 l1 8) s7 _ h) t9 kl_6 (CW.of yv_X6_isOf ml_X5_87) ⟨rfl, rfl, ⟨by decide, by decide⟩, by decide, by decide⟩ rfl hl.1 rfl (by decide) dX5_leads_41) hS (fun w11 s10 H locs h hW hS => ?_)
      exact r_z C hr hW hS h.1 h.2 dX5_leads_44
theorem T_X5_leads (l : Launch) {G : Lay} {D : va_G} {tc : Nat → ClassId} {b0 : Nat} (l0 : Nat) (l1 : Nat) (l2 : Int32) (l3 : Int32) (l4 : Int32) (σ : Mem) (Qx : Int32 → Mem → Prop) (h : X_X5_leads G Qx l0 l1 l2 l3 l4 σ) : MI l yX5_leads cX5_leads 7 ((some FieldType.boolean)) rm_X5_leads G D tc b0 [rv b0 l0, rv b0 l1, .int l2, .int l3, .int l4] σ Qx :=
  x_entry (y := yX5_leads) [.inr (.inr l0), .inr (.inr l1), .inl l2, .inl l3, .inl l4] 2 (by decide) (Nat.le_of_ble_eq_true rfl) (fun p e s m args below meth c ls C hr hW hl => t_X5_leads_0 C hr va_S.rf hW (hl.keep [true, true, true, true, true, false, false] rfl) h)
/-! X5_brokenRule -/
set_option maxRecDepth 20000 in
set_option maxHeartbeats 4000000 in
theorem t_X5_brokenRule_25 {p : Program} {l : Launch} {e : Env} {s : State} {m : MethodId} {args : Array Value} {below : List Frame} {meth : Method} {c : Code} {H : Heap} {locs : List Loc} {D : va_G} {tc : Nat → ClassId} {b0 : Nat} {ls : Array Slot} {G : Lay} {Qx : Int32 → Mem → Prop}   {σ : Mem} (C : Cx p s m args meth c cX5_brokenRule RX5 6 D tc b0) (hr : meth.sig.returnType = (some FieldType.int)) (hS : va_S (AA b0) s.heap H locs) (hW : Wd G D tc b0 σ H) (hl : hL b0 ls 6 [none, none, none, none, none, none]) (h : X_X5_brokenRule_25 G Qx   σ) : W p l e rm_X5_brokenRule s m args below meth c H locs 0 0 (MQ below (va_Qi Qx (fun u t => Pw G D tc b0 u t) (AA b0)) args s 0 0 (AA b0)) (F0 m 25 ls []) := by
  have hx := C.1
  have hb := C.2.1
  unfold X_X5_brokenRule_25 at h
  refine lv_iconst (v := (-1 : Int32)) hx hb dX5_brokenRule_25 (by decide) ?_
  exact r_i C hr hW hS h dX5_brokenRule_26
set_option maxRecDepth 20000 in
set_option maxHeartbeats 4000000 in
theorem t_X5_brokenRule_96 {p : Program} {l : Launch} {e : Env} {s : State} {m : MethodId} {args : Array Value} {below : List Frame} {meth : Method} {c : Code} {H : Heap} {locs : List Loc} {D : va_G} {tc : Nat → ClassId} {b0 : Nat} {ls : Array Slot} {G : Lay} {Qx : Int32 → Mem → Prop}   {σ : Mem} (C : Cx p s m args meth c cX5_brokenRule RX5 6 D tc b0) (hr : meth.sig.returnType = (some FieldType.int)) (hS : va_S (AA b0) s.heap H locs) (hW : Wd G D tc b0 σ H) (hl : hL b0 ls 6 [none, none, none, none, none, none]) (h : X_X5_brokenRule_96 G Qx   σ) : W p l e rm_X5_brokenRule s m args below meth c H locs 0 0 (MQ below (va_Qi Qx (fun u t => Pw G D tc b0 u t) (AA b0)) args s 0 0 (AA b0)) (F0 m 96 ls []) := by
  have hx := C.1
  have hb := C.2.1
  unfold X_X5_brokenRule_96 at h
  refine lv_iconst (v := (-1 : Int32)) hx hb dX5_brokenRule_96 (by decide) ?_
  exact r_i C hr hW hS h dX5_brokenRule_97
set_option maxRecDepth 20000 in
set_option maxHeartbeats 4000000 in
theorem t_X5_brokenRule_67 {p : Program} {l : Launch} {e : Env} {s : State} {m : MethodId} {args : Array Value} {below : List Frame} {meth : Method} {c : Code} {H : Heap} {locs : List Loc} {D : va_G} {tc : Nat → ClassId} {b0 : Nat} {ls : Array Slot} {G : Lay} {Qx : Int32 → Mem → Prop} {l0 : Nat} {l1 : Int32} {l2 : Int32} {l4 : Int32} {l5 : Nat}  {σ : Mem} (C : Cx p s m args meth c cX5_brokenRule RX5 6 D tc b0) (hr : meth.sig.returnType = (some FieldType.int)) (hS : va_S (AA b0) s.heap H locs) (hW : Wd G D tc b0 σ H) (hl : hL b0 ls 6 [some (.inr (.inr l0)), some (.inl l1), some (.inl l2), none, some (.inl l4), some (.inr (.inr l5))]) (h : X_X5_brokenRule_67 G Qx l0 l1 l2 l4 l5  σ) : W p l e rm_X5_brokenRule s m args below meth c H locs 0 0 (MQ below (va_Qi Qx (fun u t => Pw G D tc b0 u t) (AA b0)) args s 0 0 (AA b0)) (F0 m 67 ls []) := by
  have hx := C.1
  have hb := C.2.1
  unfold X_X5_brokenRule_67 at h
  refine x_aload C hl dX5_brokenRule_67 rfl ?_
  have t1 := h.1
  replace h := h.2
  refine x_get C hW (t := 2) (k := 2) t1 kl_2 (by decide) fl_X5_70 (v := .int (mI σ l5 2)) rfl dX5_brokenRule_69 ?_
  refine lv_iconst (v := (4 : Int32)) hx hb dX5_brokenRule_72 (by decide) ?_
  refine lv_icmp_ne hx hb dX5_brokenRule_73 (tgt := 96) rfl (fun hc => ?_) (fun hc => ?_)
  · replace h := h.2 hc
    exact t_X5_brokenRule_96 C hr hS hW (hl.keep [false, false, false, false, false, false] rfl) h
  · replace h := h.1 hc
    refine x_iload C hl dX5_brokenRule_76 rfl ?_
    refine lv_if_eq hx hb dX5_brokenRule_78 (tgt := 96) rfl (fun hc => ?_) (fun hc => ?_)
    · replace h := h.1 hc
      exact t_X5_brokenRule_96 C hr hS hW (hl.keep [false, false, false, false, false, false] rfl) h
    · replace h := h.2 hc
      refine x_aload_n C hl dX5_brokenRule_81 rfl ?_
      refine x_aload C hl dX5_brokenRule_82 rfl ?_
      refine x_iload_n C hl dX5_brokenRule_84 rfl ?_
      refine x_iload_n C hl dX5_brokenRule_85 rfl ?_
      refine x_iload C hl dX5_brokenRule_86 rfl ?_
      have t2 := h.1
      replace h := h.2
      refine y_i (x_run (As := [rv b0 l5, .int l1, .int l2, .int l4]) C hW hS (T_X5_leads l l0 l5 l1 l2 l4 σ _ h) t2 kl_5 (CW.of yv_X5_leads ml_X5_81) ⟨rfl, rfl, ⟨by decide, by decide⟩, by decide, by decide⟩ rfl hl.1 rfl (by decide) dX5_brokenRule_88) hS (fun w4 s3 H locs h hW hS => ?_)
      refine lv_if_ne hx hb dX5_brokenRule_91 (tgt := 96) rfl (fun hc => ?_) (fun hc => ?_)
      · replace h := h.2 hc
        exact t_X5_brokenRule_96 C hr hS hW (hl.keep [false, false, false, false, false, false] rfl) h
      · replace h := h.1 hc
        refine lv_iconst (v := (2 : Int32)) hx hb dX5_brokenRule_94 (by decide) ?_
        exact r_i C hr hW hS h dX5_brokenRule_95
set_option maxRecDepth 20000 in
set_option maxHeartbeats 4000000 in
theorem t_X5_brokenRule_43 {p : Program} {l : Launch} {e : Env} {s : State} {m : MethodId} {args : Array Value} {below : List Frame} {meth : Method} {c : Code} {H : Heap} {locs : List Loc} {D : va_G} {tc : Nat → ClassId} {b0 : Nat} {ls : Array Slot} {G : Lay} {Qx : Int32 → Mem → Prop} {l0 : Nat} {l1 : Int32} {l2 : Int32} {l3 : Int32} {l4 : Int32} {l5 : Nat}  {σ : Mem} (C : Cx p s m args meth c cX5_brokenRule RX5 6 D tc b0) (hr : meth.sig.returnType = (some FieldType.int)) (hS : va_S (AA b0) s.heap H locs) (hW : Wd G D tc b0 σ H) (hl : hL b0 ls 6 [some (.inr (.inr l0)), some (.inl l1), some (.inl l2), some (.inl l3), some (.inl l4), some (.inr (.inr l5))]) (h : X_X5_brokenRule_43 G Qx l0 l1 l2 l3 l4 l5  σ) : W p l e rm_X5_brokenRule s m args below meth c H locs 0 0 (MQ below (va_Qi Qx (fun u t => Pw G D tc b0 u t) (AA b0)) args s 0 0 (AA b0)) (F0 m 43 ls []) := by
  have hx := C.1
  have hb := C.2.1
  unfold X_X5_brokenRule_43 at h
  refine x_aload C hl dX5_brokenRule_43 rfl ?_
  refine lv_iconst (v := (1 : Int32)) hx hb dX5_brokenRule_45 (by decide) ?_
  have t1 := h.1
  replace h := h.2
  refine y_i (x_run (As := [.int (1 : Int32)]) C hW hS (T_X2_has l l5 (1 : Int32) σ _ h) t1 kl_2 (CW.of yv_X2_has ml_X5_73) ⟨rfl, rfl, ⟨by decide, by decide⟩, by decide, by decide⟩ rfl hl.1 rfl (by decide) dX5_brokenRule_46) hS (fun w3 s2 H locs h hW hS => ?_)
  refine lv_if_eq hx hb dX5_brokenRule_49 (tgt := 67) rfl (fun hc => ?_) (fun hc => ?_)
  · replace h := h.1 hc
    exact t_X5_brokenRule_67 C hr hS hW (hl.keep [true, true, true, false, true, true] rfl) h
  · replace h := h.2 hc
    refine x_aload_n C hl dX5_brokenRule_52 rfl ?_
    refine x_aload C hl dX5_brokenRule_53 rfl ?_
    refine x_iload_n C hl dX5_brokenRule_55 rfl ?_
    refine x_iload_n C hl dX5_brokenRule_56 rfl ?_
    refine x_iload C hl dX5_brokenRule_57 rfl ?_
    have t4 := h.1
    replace h := h.2
    refine y_i (x_run (As := [rv b0 l5, .int l2, .int l3, .int l4]) C hW hS (T_X5_isTaken l l0 l5 l2 l3 l4 s2 _ h) t4 kl_5 (CW.of yv_X5_isTaken ml_X5_77) ⟨rfl, rfl, ⟨by decide, by decide⟩, by decide, by decide⟩ rfl hl.1 rfl (by decide) dX5_brokenRule_59) hS (fun w6 s5 H locs h hW hS => ?_)
    refine lv_if_eq hx hb dX5_brokenRule_62 (tgt := 67) rfl (fun hc => ?_) (fun hc => ?_)
    · replace h := h.1 hc
      exact t_X5_brokenRule_67 C hr hS hW (hl.keep [true, true, true, false, true, true] rfl) h
    · replace h := h.2 hc
      refine lv_iconst (v := (1 : Int32)) hx hb dX5_brokenRule_65 (by decide) ?_
      exact r_i C hr hW hS h dX5_brokenRule_66
set_option maxRecDepth 20000 in
set_option maxHeartbeats 4000000 in
theorem t_X5_brokenRule_0 {p : Program} {l : Launch} {e : Env} {s : State} {m : MethodId} {args : Array Value} {below : List Frame} {meth : Method} {c : Code} {H : Heap} {locs : List Loc} {D : va_G} {tc : Nat → ClassId} {b0 : Nat} {ls : Array Slot} {G : Lay} {Qx : Int32 → Mem → Prop} {l0 : Nat} {l1 : Int32} {l2 : Int32} {l3 : Int32} {l4 : Int32}  {σ : Mem} (C : Cx p s m args meth c cX5_brokenRule RX5 6 D tc b0) (hr : meth.sig.returnType = (some FieldType.int)) (hS : va_S (AA b0) s.heap H locs) (hW : Wd G D tc b0 σ H) (hl : hL b0 ls 6 [some (.inr (.inr l0)), some (.inl l1), some (.inl l2), some (.inl l3), some (.inl l4), none]) (h : X_X5_brokenRule_0 G Qx l0 l1 l2 l3 l4  σ) : W p l e rm_X5_brokenRule s m args below meth c H locs 0 0 (MQ below (va_Qi Qx (fun u t => Pw G D tc b0 u t) (AA b0)) args s 0 0 (AA b0)) (F0 m 0 ls []) := by
  have hx := C.1
  have hb := C.2.1
  unfold X_X5_brokenRule_0 at h
  refine x_aload_n C hl dX5_brokenRule_0 rfl ?_
  have t1 := h.1
  replace h := h.2
  refine x_get C hW (t := 5) (k := 0) t1 kl_5 (by decide) fl_X5_27 (v := rv b0 (mR σ l0 0)) rfl dX5_brokenRule_1 ?_
  refine x_iload_n C hl dX5_brokenRule_4 rfl ?_
  refine x_iload_n C hl dX5_brokenRule_5 rfl ?_
  have t2 := h.1
  replace h := h.2
  refine y_r (x_run (As := [.int l1, .int l3]) C hW hS (T_X6_memberAt l (mR σ l0 0) l1 l3 σ _ h) t2 kl_6 (CW.of yv_X6_memberAt ml_X5_37) ⟨rfl, rfl, ⟨by decide, by decide⟩, by decide, by decide⟩ rfl hl.1 rfl (by decide) dX5_brokenRule_6) hS (fun w4 s3 H locs h hW hS => ?_)
  refine x_astore C hl dX5_brokenRule_9 (by decide) rfl (fun ls hl => ?_)
  refine x_aload C hl dX5_brokenRule_11 rfl ?_
  refine x_ifnull C dX5_brokenRule_13 (tgt := 25) rfl (fun hc => ?_) (fun hc => ?_)
  · replace h := h.1 hc
    exact t_X5_brokenRule_25 C hr hS hW (hl.keep [false, false, false, false, false, false] rfl) h
  · replace h := h.2 hc
    refine x_aload C hl dX5_brokenRule_16 rfl ?_
    have t5 := h.1
    replace h := h.2
    refine x_get C hW (t := 2) (k := 2) t5 kl_2 (by decide) fl_X5_70 (v := .int (mI s3 w4 2)) rfl dX5_brokenRule_18 ?_
    refine lv_iconst (v := (5 : Int32)) hx hb dX5_brokenRule_21 (by decide) ?_
    refine lv_icmp_ne hx hb dX5_brokenRule_22 (tgt := 27) rfl (fun hc => ?_) (fun hc => ?_)
    · replace h := h.2 hc
      refine x_aload C hl dX5_brokenRule_27 rfl ?_
      refine lv_iconst (v := (2 : Int32)) hx hb dX5_brokenRule_29 (by decide) ?_
      refine y_i (x_run (As := [.int (2 : Int32)]) C hW hS (T_X2_has l w4 (2 : Int32) s3 _ h) t5 kl_2 (CW.of yv_X2_has ml_X5_73) ⟨rfl, rfl, ⟨by decide, by decide⟩, by decide, by decide⟩ rfl hl.1 rfl (by decide) dX5_brokenRule_30) hS (fun w7 s6 H locs h hW hS => ?_)
      refine lv_if_eq hx hb dX5_brokenRule_33 (tgt := 43) rfl (fun hc => ?_) (fun hc => ?_)
      · replace h := h.1 hc
        exact t_X5_brokenRule_43 C hr hS hW (hl.keep [true, true, true, true, true, true] rfl) h
      · replace h := h.2 hc
        refine x_iload C hl dX5_brokenRule_36 rfl ?_
        refine lv_if_ne hx hb dX5_brokenRule_38 (tgt := 43) rfl (fun hc => ?_) (fun hc => ?_)
        · replace h := h.2 hc
          exact t_X5_brokenRule_43 C hr hS hW (hl.keep [true, true, true, true, true, true] rfl) h
        · replace h := h.1 hc
          refine lv_iconst (v := (0 : Int32)) hx hb dX5_brokenRule_41 (by decide) ?_
          exact r_i C hr hW hS h dX5_brokenRule_42
    · replace h := h.1 hc
      exact t_X5_brokenRule_25 C hr hS hW (hl.keep [false, false, false, false, false, false] rfl) h
theorem T_X5_brokenRule (l : Launch) {G : Lay} {D : va_G} {tc : Nat → ClassId} {b0 : Nat} (l0 : Nat) (l1 : Int32) (l2 : Int32) (l3 : Int32) (l4 : Int32) (σ : Mem) (Qx : Int32 → Mem → Prop) (h : X_X5_brokenRule G Qx l0 l1 l2 l3 l4 σ) : MI l yX5_brokenRule cX5_brokenRule 6 ((some FieldType.int)) rm_X5_brokenRule G D tc b0 [rv b0 l0, .int l1, .int l2, .int l3, .int l4] σ Qx :=
  x_entry (y := yX5_brokenRule) [.inr (.inr l0), .inl l1, .inl l2, .inl l3, .inl l4] 1 (by decide) (Nat.le_of_ble_eq_true rfl) (fun p e s m args below meth c ls C hr hW hl => t_X5_brokenRule_0 C hr va_S.rf hW (hl.keep [true, true, true, true, true, false] rfl) h)
/-! X5_memberLeading -/
set_option maxRecDepth 20000 in
set_option maxHeartbeats 4000000 in
theorem t_X5_memberLeading_78 {p : Program} {l : Launch} {e : Env} {s : State} {m : MethodId} {args : Array Value} {below : List Frame} {meth : Method} {c : Code} {H : Heap} {locs : List Loc} {D : va_G} {tc : Nat → ClassId} {b0 : Nat} {ls : Array Slot} {G : Lay} {Qx : Int32 → Mem → Prop} {l0 : Nat} {l1 : Int32} {l2 : Int32} {l3 : Int32} {l4 : Nat} {l5 : Int32}  {K19 : Int32 × Mem → Prop} {σ : Mem} (C : Cx p s m args meth c cX5_memberLeading RX5 7 D tc b0) (hr : meth.sig.returnType = (some FieldType.int)) (hK19 : ∀ (x5 : Int32) (σ : Mem) (H : Heap) (locs : List Loc) (ls : Array Slot), va_S (AA b0) s.heap H locs → Wd G D tc b0 σ H → hL b0 ls 7 [some (.inr (.inr l0)), some (.inl l1), some (.inl l2), some (.inl l3), some (.inr (.inr l4)), some (.inl x5), none] → K19 (x5, σ) → W p l e rm_X5_memberLeading s m args below meth c H locs 0 0 (MQ below (va_Qi Qx (fun u t => Pw G D tc b0 u t) (AA b0)) args s 0 0 (AA b0)) (F0 m 19 ls [])) (hS : va_S (AA b0) s.heap H locs) (hW : Wd G D tc b0 σ H) (hl : hL b0 ls 7 [some (.inr (.inr l0)), some (.inl l1), some (.inl l2), some (.inl l3), some (.inr (.inr l4)), some (.inl l5), none]) (h : X_X5_memberLeading_78 G Qx K19 l0 l1 l2 l3 l4 l5  σ) : W p l e rm_X5_memberLeading s m args below meth c H locs 0 0 (MQ below (va_Qi Qx (fun u t => Pw G D tc b0 u t) (AA b0)) args s 0 0 (AA b0)) (F0 m 78 ls []) := by
  have hx := C.1
  have hb := C.2.1
  unfold X_X5_memberLeading_78 at h
  refine x_iinc C hl dX5_memberLeading_78 rfl (v := (1 : Int32)) (by decide) (by decide) rfl (fun ls hl => ?_)
  refine lv_goto hx hb dX5_memberLeading_81 (tgt := 19) rfl ?_
  exact hK19 _ _ _ _ _ hS hW (hl.keep [true, true, true, true, true, true, false] rfl) h
set_option maxRecDepth 20000 in
set_option maxHeartbeats 4000000 in
theorem t_X5_memberLeading_19_n {p : Program} {l : Launch} {e : Env} {s : State} {m : MethodId} {args : Array Value} {below : List Frame} {meth : Method} {c : Code} {D : va_G} {tc : Nat → ClassId} {b0 : Nat} {G : Lay} {Qx : Int32 → Mem → Prop} {l0 : Nat} {l1 : Int32} {l2 : Int32} {l3 : Int32} {l4 : Nat} (C : Cx p s m args meth c cX5_memberLeading RX5 7 D tc b0) (hr : meth.sig.returnType = (some FieldType.int)) (n : Nat) : ∀ (l5 : Int32) (σ : Mem) (H : Heap) (locs : List Loc) (ls : Array Slot), va_S (AA b0) s.heap H locs → Wd G D tc b0 σ H → hL b0 ls 7 [some (.inr (.inr l0)), some (.inl l1), some (.inl l2), some (.inl l3), some (.inr (.inr l4)), some (.inl l5), none] → Lp (X_X5_memberLeading_19_s G Qx l0 l1 l2 l3 l4) n (l5, σ) → W p l e rm_X5_memberLeading s m args below meth c H locs 0 0 (MQ below (va_Qi Qx (fun u t => Pw G D tc b0 u t) (AA b0)) args s 0 0 (AA b0)) (F0 m 19 ls []) := by
  have hx := C.1
  have hb := C.2.1
  induction n with
  | zero => intro l5 σ H locs ls hS hW hl h; exact False.elim h
  | succ n hK19 =>
    intro l5 σ H locs ls hS hW hl h
    replace h : X_X5_memberLeading_19_s G Qx l0 l1 l2 l3 l4 (Lp (X_X5_memberLeading_19_s G Qx l0 l1 l2 l3 l4) n) (l5, σ) := h
    unfold X_X5_memberLeading_19_s at h
    refine x_iload C hl dX5_memberLeading_19 rfl ?_
    refine x_aload C hl dX5_memberLeading_21 rfl ?_
    have t1 := h.1
    replace h := h.2
    refine x_get C hW (t := 1) (k := 4) t1 kl_1 (by decide) fl_X5_101 (v := .int (mI σ l4 4)) rfl dX5_memberLeading_23 ?_
    refine lv_icmp_ge hx hb dX5_memberLeading_26 (tgt := 84) rfl (fun hc => ?_) (fun hc => ?_)
    · replace h := h.1 hc
      refine lv_iconst (v := (-1 : Int32)) hx hb dX5_memberLeading_84 (by decide) ?_
      exact r_i C hr hW hS h dX5_memberLeading_85
    · replace h := h.2 hc
      refine x_aload C hl dX5_memberLeading_29 rfl ?_
      refine x_get C hW (t := 1) (k := 5) t1 kl_1 (by decide) fl_X5_106 (v := rv b0 (mR σ l4 5)) rfl dX5_memberLeading_31 ?_
      refine x_iload C hl dX5_memberLeading_34 rfl ?_
      have t2 := h.1
      replace h := h.2
      have v3 := h.1
      replace h := h.2
      refine x_aald C hW (t := 104) (t0 := 5) t2 (by decide) rfl v3 dX5_memberLeading_36 ?_
      refine x_astore C hl dX5_memberLeading_37 (by decide) rfl (fun ls hl => ?_)
      refine x_aload C hl dX5_memberLeading_39 rfl ?_
      have t4 := h.1
      replace h := h.2
      refine x_get C hW (t := 2) (k := 2) t4 kl_2 (by decide) fl_X5_70 (v := .int (mI σ (mR σ (mR σ l4 5) l5.toNatClampNeg) 2)) rfl dX5_memberLeading_41 ?_
      refine lv_iconst (v := (4 : Int32)) hx hb dX5_memberLeading_44 (by decide) ?_
      refine lv_icmp_ne hx hb dX5_memberLeading_45 (tgt := 78) rfl (fun hc => ?_) (fun hc => ?_)
      · replace h := h.2 hc
        exact t_X5_memberLeading_78 C hr hK19 hS hW (hl.keep [true, true, true, true, true, true, false] rfl) h
      · replace h := h.1 hc
        refine x_aload_n C hl dX5_memberLeading_48 rfl ?_
        refine x_iload_n C hl dX5_memberLeading_49 rfl ?_
        refine x_iload C hl dX5_memberLeading_50 rfl ?_
        have t5 := h.1
        replace h := h.2
        refine y_i (x_run (As := [.int l1, .int l5]) C hW hS (T_X5_get l l0 l1 l5 σ _ h) t5 kl_5 (CW.of yv_X5_get ml_X5_43) ⟨rfl, rfl, ⟨by decide, by decide⟩, by decide, by decide⟩ rfl hl.1 rfl (by decide) dX5_memberLeading_52) hS (fun w7 s6 H locs h hW hS => ?_)
        refine x_iload_n C hl dX5_memberLeading_55 rfl ?_
        refine lv_icmp_ne hx hb dX5_memberLeading_56 (tgt := 78) rfl (fun hc => ?_) (fun hc => ?_)
        · replace h := h.2 hc
          exact t_X5_memberLeading_78 C hr hK19 hS hW (hl.keep [true, true, true, true, true, true, false] rfl) h
        · replace h := h.1 hc
          refine x_aload_n C hl dX5_memberLeading_59 rfl ?_
          refine x_get C hW (t := 5) (k := 0) t5 kl_5 (by decide) fl_X5_27 (v := rv b0 (mR s6 l0 0)) rfl dX5_memberLeading_60 ?_
          refine x_aload C hl dX5_memberLeading_63 rfl ?_
          refine x_get C hW (t := 2) (k := 8) t4 kl_2 (by decide) fl_X5_47 (v := .int (mI s6 (mR σ (mR σ l4 5) l5.toNatClampNeg) 8)) rfl dX5_memberLeading_65 ?_
          have t8 := h.1
          replace h := h.2
          refine y_i (x_run (As := [.int (mI s6 (mR σ (mR σ l4 5) l5.toNatClampNeg) 8)]) C hW hS (T_X6_rootOf l (mR s6 l0 0) (mI s6 (mR σ (mR σ l4 5) l5.toNatClampNeg) 8) s6 _ h) t8 kl_6 (CW.of yv_X6_rootOf ml_X5_53) ⟨rfl, rfl, ⟨by decide, by decide⟩, by decide, by decide⟩ rfl hl.1 rfl (by decide) dX5_memberLeading_68) hS (fun w10 s9 H locs h hW hS => ?_)
          refine x_iload_n C hl dX5_memberLeading_71 rfl ?_
          refine lv_icmp_ne hx hb dX5_memberLeading_72 (tgt := 78) rfl (fun hc => ?_) (fun hc => ?_)
          · replace h := h.2 hc
            exact t_X5_memberLeading_78 C hr hK19 hS hW (hl.keep [true, true, true, true, true, true, false] rfl) h
          · replace h := h.1 hc
            refine x_iload C hl dX5_memberLeading_75 rfl ?_
            exact r_i C hr hW hS h dX5_memberLeading_77
set_option maxRecDepth 20000 in
set_option maxHeartbeats 4000000 in
theorem t_X5_memberLeading_19 {p : Program} {l : Launch} {e : Env} {s : State} {m : MethodId} {args : Array Value} {below : List Frame} {meth : Method} {c : Code} {H : Heap} {locs : List Loc} {D : va_G} {tc : Nat → ClassId} {b0 : Nat} {ls : Array Slot} {G : Lay} {Qx : Int32 → Mem → Prop} {l0 : Nat} {l1 : Int32} {l2 : Int32} {l3 : Int32} {l4 : Nat} {l5 : Int32}  {σ : Mem} (C : Cx p s m args meth c cX5_memberLeading RX5 7 D tc b0) (hr : meth.sig.returnType = (some FieldType.int)) (hS : va_S (AA b0) s.heap H locs) (hW : Wd G D tc b0 σ H) (hl : hL b0 ls 7 [some (.inr (.inr l0)), some (.inl l1), some (.inl l2), some (.inl l3), some (.inr (.inr l4)), some (.inl l5), none]) (h : X_X5_memberLeading_19 G Qx l0 l1 l2 l3 l4 l5 σ) : W p l e rm_X5_memberLeading s m args below meth c H locs 0 0 (MQ below (va_Qi Qx (fun u t => Pw G D tc b0 u t) (AA b0)) args s 0 0 (AA b0)) (F0 m 19 ls []) := by
  obtain ⟨n, h⟩ := h
  exact t_X5_memberLeading_19_n C hr n l5 σ H locs ls hS hW hl h
set_option maxRecDepth 20000 in
set_option maxHeartbeats 4000000 in
theorem t_X5_memberLeading_0 {p : Program} {l : Launch} {e : Env} {s : State} {m : MethodId} {args : Array Value} {below : List Frame} {meth : Method} {c : Code} {H : Heap} {locs : List Loc} {D : va_G} {tc : Nat → ClassId} {b0 : Nat} {ls : Array Slot} {G : Lay} {Qx : Int32 → Mem → Prop} {l0 : Nat} {l1 : Int32} {l2 : Int32} {l3 : Int32}  {σ : Mem} (C : Cx p s m args meth c cX5_memberLeading RX5 7 D tc b0) (hr : meth.sig.returnType = (some FieldType.int)) (hS : va_S (AA b0) s.heap H locs) (hW : Wd G D tc b0 σ H) (hl : hL b0 ls 7 [some (.inr (.inr l0)), some (.inl l1), some (.inl l2), some (.inl l3), none, none, none]) (h : X_X5_memberLeading_0 G Qx l0 l1 l2 l3  σ) : W p l e rm_X5_memberLeading s m args below meth c H locs 0 0 (MQ below (va_Qi Qx (fun u t => Pw G D tc b0 u t) (AA b0)) args s 0 0 (AA b0)) (F0 m 0 ls []) := by
  have hx := C.1
  have hb := C.2.1
  unfold X_X5_memberLeading_0 at h
  refine x_aload_n C hl dX5_memberLeading_0 rfl ?_
  have t1 := h.1
  replace h := h.2
  refine x_get C hW (t := 5) (k := 0) t1 kl_5 (by decide) fl_X5_27 (v := rv b0 (mR σ l0 0)) rfl dX5_memberLeading_1 ?_
  have t2 := h.1
  replace h := h.2
  refine x_get C hW (t := 6) (k := 1) t2 kl_6 (by decide) fl_X5_98 (v := rv b0 (mR σ (mR σ l0 0) 1)) rfl dX5_memberLeading_4 ?_
  refine x_aload_n C hl dX5_memberLeading_7 rfl ?_
  refine x_get C hW (t := 5) (k := 3) t1 kl_5 (by decide) fl_X5_18 (v := rv b0 (mR σ l0 3)) rfl dX5_memberLeading_8 ?_
  refine x_iload_n C hl dX5_memberLeading_11 rfl ?_
  have t3 := h.1
  replace h := h.2
  have v4 := h.1
  replace h := h.2
  refine x_iald C hW t3 v4 dX5_memberLeading_12 ?_
  have t5 := h.1
  replace h := h.2
  have v6 := h.1
  replace h := h.2
  refine x_aald C hW (t := 103) (t0 := 4) t5 (by decide) rfl v6 dX5_memberLeading_13 ?_
  refine x_astore C hl dX5_memberLeading_14 (by decide) rfl (fun ls hl => ?_)
  refine lv_iconst (v := (0 : Int32)) hx hb dX5_memberLeading_16 (by decide) ?_
  refine x_istore C hl dX5_memberLeading_17 (by decide) rfl (fun ls hl => ?_)
  exact t_X5_memberLeading_19 C hr hS hW (hl.keep [true, true, true, true, true, true, false] rfl) h
theorem T_X5_memberLeading (l : Launch) {G : Lay} {D : va_G} {tc : Nat → ClassId} {b0 : Nat} (l0 : Nat) (l1 : Int32) (l2 : Int32) (l3 : Int32) (σ : Mem) (Qx : Int32 → Mem → Prop) (h : X_X5_memberLeading G Qx l0 l1 l2 l3 σ) : MI l yX5_memberLeading cX5_memberLeading 7 ((some FieldType.int)) rm_X5_memberLeading G D tc b0 [rv b0 l0, .int l1, .int l2, .int l3] σ Qx :=
  x_entry (y := yX5_memberLeading) [.inr (.inr l0), .inl l1, .inl l2, .inl l3] 3 (by decide) (Nat.le_of_ble_eq_true rfl) (fun p e s m args below meth c ls C hr hW hl => t_X5_memberLeading_0 C hr va_S.rf hW (hl.keep [true, true, true, true, false, false, false] rfl) h)
/-! X5_leadingMember -/
set_option maxRecDepth 20000 in
set_option maxHeartbeats 4000000 in
theorem t_X5_leadingMember_89 {p : Program} {l : Launch} {e : Env} {s : State} {m : MethodId} {args : Array Value} {below : List Frame} {meth : Method} {c : Code} {H : Heap} {locs : List Loc} {D : va_G} {tc : Nat → ClassId} {b0 : Nat} {ls : Array Slot} {G : Lay} {Qx : Int32 → Mem → Prop} {l0 : Nat} {l1 : Int32} {l2 : Int32} {l3 : Int32} {l4 : Int32} {l5 : Int32}  {K2 : Int32 × Mem → Prop} {K31 : Int32 × Mem → Prop} {σ : Mem} (C : Cx p s m args meth c cX5_leadingMember RX5 7 D tc b0) (hr : meth.sig.returnType = (some FieldType.int)) (hK2 : ∀ (x3 : Int32) (σ : Mem) (H : Heap) (locs : List Loc) (ls : Array Slot), va_S (AA b0) s.heap H locs → Wd G D tc b0 σ H → hL b0 ls 7 [some (.inr (.inr l0)), some (.inl l1), some (.inl l2), some (.inl x3), none, none, none] → K2 (x3, σ) → W p l e rm_X5_leadingMember s m args below meth c H locs 0 0 (MQ below (va_Qi Qx (fun u t => Pw G D tc b0 u t) (AA b0)) args s 0 0 (AA b0)) (F0 m 2 ls [])) (hK31 : ∀ (x5 : Int32) (σ : Mem) (H : Heap) (locs : List Loc) (ls : Array Slot), va_S (AA b0) s.heap H locs → Wd G D tc b0 σ H → hL b0 ls 7 [some (.inr (.inr l0)), some (.inl l1), some (.inl l2), some (.inl l3), some (.inl l4), some (.inl x5), none] → K31 (x5, σ) → W p l e rm_X5_leadingMember s m args below meth c H locs 0 0 (MQ below (va_Qi Qx (fun u t => Pw G D tc b0 u t) (AA b0)) args s 0 0 (AA b0)) (F0 m 31 ls [])) (hS : va_S (AA b0) s.heap H locs) (hW : Wd G D tc b0 σ H) (hl : hL b0 ls 7 [some (.inr (.inr l0)), some (.inl l1), some (.inl l2), some (.inl l3), some (.inl l4), some (.inl l5), none]) (h : X_X5_leadingMember_89 G Qx K2 K31 l0 l1 l2 l3 l4 l5  σ) : W p l e rm_X5_leadingMember s m args below meth c H locs 0 0 (MQ below (va_Qi Qx (fun u t => Pw G D tc b0 u t) (AA b0)) args s 0 0 (AA b0)) (F0 m 89 ls []) := by
  have hx := C.1
  have hb := C.2.1
  unfold X_X5_leadingMember_89 at h
  refine x_iinc C hl dX5_leadingMember_89 rfl (v := (1 : Int32)) (by decide) (by decide) rfl (fun ls hl => ?_)
  refine lv_goto hx hb dX5_leadingMember_92 (tgt := 31) rfl ?_
  exact hK31 _ _ _ _ _ hS hW (hl.keep [true, true, true, true, true, true, false] rfl) h
set_option maxRecDepth 20000 in
set_option maxHeartbeats 4000000 in
theorem t_X5_leadingMember_70 {p : Program} {l : Launch} {e : Env} {s : State} {m : MethodId} {args : Array Value} {below : List Frame} {meth : Method} {c : Code} {H : Heap} {locs : List Loc} {D : va_G} {tc : Nat → ClassId} {b0 : Nat} {ls : Array Slot} {G : Lay} {Qx : Int32 → Mem → Prop} {l0 : Nat} {l1 : Int32} {l2 : Int32} {l3 : Int32} {l4 : Int32} {l5 : Int32}  {K2 : Int32 × Mem → Prop} {K31 : Int32 × Mem → Prop} {σ : Mem} (C : Cx p s m args meth c cX5_leadingMember RX5 7 D tc b0) (hr : meth.sig.returnType = (some FieldType.int)) (hK2 : ∀ (x3 : Int32) (σ : Mem) (H : Heap) (locs : List Loc) (ls : Array Slot), va_S (AA b0) s.heap H locs → Wd G D tc b0 σ H → hL b0 ls 7 [some (.inr (.inr l0)), some (.inl l1), some (.inl l2), some (.inl x3), none, none, none] → K2 (x3, σ) → W p l e rm_X5_leadingMember s m args below meth c H locs 0 0 (MQ below (va_Qi Qx (fun u t => Pw G D tc b0 u t) (AA b0)) args s 0 0 (AA b0)) (F0 m 2 ls [])) (hK31 : ∀ (x5 : Int32) (σ : Mem) (H : Heap) (locs : List Loc) (ls : Array Slot), va_S (AA b0) s.heap H locs → Wd G D tc b0 σ H → hL b0 ls 7 [some (.inr (.inr l0)), some (.inl l1), some (.inl l2), some (.inl l3), some (.inl l4), some (.inl x5), none] → K31 (x5, σ) → W p l e rm_X5_leadingMember s m args below meth c H locs 0 0 (MQ below (va_Qi Qx (fun u t => Pw G D tc b0 u t) (AA b0)) args s 0 0 (AA b0)) (F0 m 31 ls [])) (hS : va_S (AA b0) s.heap H locs) (hW : Wd G D tc b0 σ H) (hl : hL b0 ls 7 [some (.inr (.inr l0)), some (.inl l1), some (.inl l2), some (.inl l3), some (.inl l4), some (.inl l5), none]) (h : X_X5_leadingMember_70 G Qx K2 K31 l0 l1 l2 l3 l4 l5  σ) : W p l e rm_X5_leadingMember s m args below meth c H locs 0 0 (MQ below (va_Qi Qx (fun u t => Pw G D tc b0 u t) (AA b0)) args s 0 0 (AA b0)) (F0 m 70 ls []) := by
  have hx := C.1
  have hb := C.2.1
  unfold X_X5_leadingMember_70 at h
  refine x_aload_n C hl dX5_leadingMember_70 rfl ?_
  refine x_iload C hl dX5_leadingMember_71 rfl ?_
  refine x_iload_n C hl dX5_leadingMember_73 rfl ?_
  refine x_iload_n C hl dX5_leadingMember_74 rfl ?_
  have t1 := h.1
  replace h := h.2
  refine y_i (x_run (As := [.int l5, .int l1, .int l2]) C hW hS (T_X5_memberLeading l l0 l5 l1 l2 σ _ h) t1 kl_5 (CW.of yv_X5_memberLeading ml_X5_94) ⟨rfl, rfl, ⟨by decide, by decide⟩, by decide, by decide⟩ rfl hl.1 rfl (by decide) dX5_leadingMember_75) hS (fun w3 s2 H locs h hW hS => ?_)
  refine x_istore C hl dX5_leadingMember_78 (by decide) rfl (fun ls hl => ?_)
  refine x_iload C hl dX5_leadingMember_80 rfl ?_
  refine lv_iconst (v := (-1 : Int32)) hx hb dX5_leadingMember_82 (by decide) ?_
  refine lv_icmp_eq hx hb dX5_leadingMember_83 (tgt := 89) rfl (fun hc => ?_) (fun hc => ?_)
  · replace h := h.1 hc
    exact t_X5_leadingMember_89 C hr hK2 hK31 hS hW (hl.keep [true, true, true, true, true, true, false] rfl) h
  · replace h := h.2 hc
    refine x_iload C hl dX5_leadingMember_86 rfl ?_
    exact r_i C hr hW hS h dX5_leadingMember_88
set_option maxRecDepth 20000 in
set_option maxHeartbeats 4000000 in
theorem t_X5_leadingMember_31_n {p : Program} {l : Launch} {e : Env} {s : State} {m : MethodId} {args : Array Value} {below : List Frame} {meth : Method} {c : Code} {D : va_G} {tc : Nat → ClassId} {b0 : Nat} {G : Lay} {Qx : Int32 → Mem → Prop} {l0 : Nat} {l1 : Int32} {l2 : Int32} {l3 : Int32} {l4 : Int32} {K2 : Int32 × Mem → Prop} (C : Cx p s m args meth c cX5_leadingMember RX5 7 D tc b0) (hr : meth.sig.returnType = (some FieldType.int)) (hK2 : ∀ (x3 : Int32) (σ : Mem) (H : Heap) (locs : List Loc) (ls : Array Slot), va_S (AA b0) s.heap H locs → Wd G D tc b0 σ H → hL b0 ls 7 [some (.inr (.inr l0)), some (.inl l1), some (.inl l2), some (.inl x3), none, none, none] → K2 (x3, σ) → W p l e rm_X5_leadingMember s m args below meth c H locs 0 0 (MQ below (va_Qi Qx (fun u t => Pw G D tc b0 u t) (AA b0)) args s 0 0 (AA b0)) (F0 m 2 ls [])) (n : Nat) : ∀ (l5 : Int32) (σ : Mem) (H : Heap) (locs : List Loc) (ls : Array Slot), va_S (AA b0) s.heap H locs → Wd G D tc b0 σ H → hL b0 ls 7 [some (.inr (.inr l0)), some (.inl l1), some (.inl l2), some (.inl l3), some (.inl l4), some (.inl l5), none] → Lp (X_X5_leadingMember_31_s G Qx K2 l0 l1 l2 l3 l4) n (l5, σ) → W p l e rm_X5_leadingMember s m args below meth c H locs 0 0 (MQ below (va_Qi Qx (fun u t => Pw G D tc b0 u t) (AA b0)) args s 0 0 (AA b0)) (F0 m 31 ls []) := by
  have hx := C.1
  have hb := C.2.1
  induction n with
  | zero => intro l5 σ H locs ls hS hW hl h; exact False.elim h
  | succ n hK31 =>
    intro l5 σ H locs ls hS hW hl h
    replace h : X_X5_leadingMember_31_s G Qx K2 l0 l1 l2 l3 l4 (Lp (X_X5_leadingMember_31_s G Qx K2 l0 l1 l2 l3 l4) n) (l5, σ) := h
    unfold X_X5_leadingMember_31_s at h
    refine x_iload C hl dX5_leadingMember_31 rfl ?_
    refine x_aload_n C hl dX5_leadingMember_33 rfl ?_
    refine x_iload C hl dX5_leadingMember_34 rfl ?_
    have t1 := h.1
    replace h := h.2
    refine y_i (x_run (As := [.int l4]) C hW hS (T_X5_endOf l l0 l4 σ _ h) t1 kl_5 (CW.of yv_X5_endOf ml_X5_60) ⟨rfl, rfl, ⟨by decide, by decide⟩, by decide, by decide⟩ rfl hl.1 rfl (by simp [rv_cat, cat_i, cat_l]) dX5_leadingMember_36) hS (fun w3 s2 H locs h hW hS => ?_)
    refine lv_icmp_ge hx hb dX5_leadingMember_39 (tgt := 95) rfl (fun hc => ?_) (fun hc => ?_)
    · replace h := h.1 hc
      refine x_iinc C hl dX5_leadingMember_95 rfl (v := (1 : Int32)) (by decide) (by decide) rfl (fun ls hl => ?_)
      refine lv_goto hx hb dX5_leadingMember_98 (tgt := 2) rfl ?_
      exact hK2 _ _ _ _ _ hS hW (hl.keep [true, true, true, true, false, false, false] rfl) h
    · replace h := h.2 hc
      refine x_aload_n C hl dX5_leadingMember_42 rfl ?_
      refine x_get C hW (t := 5) (k := 3) t1 kl_5 (by decide) fl_X5_18 (v := rv b0 (mR s2 l0 3)) rfl dX5_leadingMember_43 ?_
      refine x_iload C hl dX5_leadingMember_46 rfl ?_
      have t4 := h.1
      replace h := h.2
      have v5 := h.1
      replace h := h.2
      refine x_iald C hW t4 v5 dX5_leadingMember_48 ?_
      refine x_iload_n C hl dX5_leadingMember_49 rfl ?_
      refine lv_icmp_ne hx hb dX5_leadingMember_50 (tgt := 89) rfl (fun hc => ?_) (fun hc => ?_)
      · replace h := h.2 hc
        exact t_X5_leadingMember_89 C hr hK2 hK31 hS hW (hl.keep [true, true, true, true, true, true, false] rfl) h
      · replace h := h.1 hc
        refine x_iload C hl dX5_leadingMember_53 rfl ?_
        refine x_iload_n C hl dX5_leadingMember_55 rfl ?_
        refine lv_icmp_ne hx hb dX5_leadingMember_56 (tgt := 70) rfl (fun hc => ?_) (fun hc => ?_)
        · replace h := h.2 hc
          exact t_X5_leadingMember_70 C hr hK2 hK31 hS hW (hl.keep [true, true, true, true, true, true, false] rfl) h
        · replace h := h.1 hc
          refine x_aload_n C hl dX5_leadingMember_59 rfl ?_
          refine x_get C hW (t := 5) (k := 2) t1 kl_5 (by decide) fl_X5_15 (v := rv b0 (mR s2 l0 2)) rfl dX5_leadingMember_60 ?_
          refine x_iload C hl dX5_leadingMember_63 rfl ?_
          have t6 := h.1
          replace h := h.2
          have v7 := h.1
          replace h := h.2
          refine x_iald C hW t6 v7 dX5_leadingMember_65 ?_
          refine x_iload_n C hl dX5_leadingMember_66 rfl ?_
          refine lv_icmp_eq hx hb dX5_leadingMember_67 (tgt := 89) rfl (fun hc => ?_) (fun hc => ?_)
          · replace h := h.1 hc
            exact t_X5_leadingMember_89 C hr hK2 hK31 hS hW (hl.keep [true, true, true, true, true, true, false] rfl) h
          · replace h := h.2 hc
            exact t_X5_leadingMember_70 C hr hK2 hK31 hS hW (hl.keep [true, true, true, true, true, true, false] rfl) h
set_option maxRecDepth 20000 in
set_option maxHeartbeats 4000000 in
theorem t_X5_leadingMember_31 {p : Program} {l : Launch} {e : Env} {s : State} {m : MethodId} {args : Array Value} {below : List Frame} {meth : Method} {c : Code} {H : Heap} {locs : List Loc} {D : va_G} {tc : Nat → ClassId} {b0 : Nat} {ls : Array Slot} {G : Lay} {Qx : Int32 → Mem → Prop} {l0 : Nat} {l1 : Int32} {l2 : Int32} {l3 : Int32} {l4 : Int32} {l5 : Int32}  {K2 : Int32 × Mem → Prop} {σ : Mem} (C : Cx p s m args meth c cX5_leadingMember RX5 7 D tc b0) (hr : meth.sig.returnType = (some FieldType.int)) (hK2 : ∀ (x3 : Int32) (σ : Mem) (H : Heap) (locs : List Loc) (ls : Array Slot), va_S (AA b0) s.heap H locs → Wd G D tc b0 σ H → hL b0 ls 7 [some (.inr (.inr l0)), some (.inl l1), some (.inl l2), some (.inl x3), none, none, none] → K2 (x3, σ) → W p l e rm_X5_leadingMember s m args below meth c H locs 0 0 (MQ below (va_Qi Qx (fun u t => Pw G D tc b0 u t) (AA b0)) args s 0 0 (AA b0)) (F0 m 2 ls [])) (hS : va_S (AA b0) s.heap H locs) (hW : Wd G D tc b0 σ H) (hl : hL b0 ls 7 [some (.inr (.inr l0)), some (.inl l1), some (.inl l2), some (.inl l3), some (.inl l4), some (.inl l5), none]) (h : X_X5_leadingMember_31 G Qx K2 l0 l1 l2 l3 l4 l5 σ) : W p l e rm_X5_leadingMember s m args below meth c H locs 0 0 (MQ below (va_Qi Qx (fun u t => Pw G D tc b0 u t) (AA b0)) args s 0 0 (AA b0)) (F0 m 31 ls []) := by
  obtain ⟨n, h⟩ := h
  exact t_X5_leadingMember_31_n C hr hK2 n l5 σ H locs ls hS hW hl h
set_option maxRecDepth 20000 in
set_option maxHeartbeats 4000000 in
theorem t_X5_leadingMember_2_n {p : Program} {l : Launch} {e : Env} {s : State} {m : MethodId} {args : Array Value} {below : List Frame} {meth : Method} {c : Code} {D : va_G} {tc : Nat → ClassId} {b0 : Nat} {G : Lay} {Qx : Int32 → Mem → Prop} {l0 : Nat} {l1 : Int32} {l2 : Int32} (C : Cx p s m args meth c cX5_leadingMember RX5 7 D tc b0) (hr : meth.sig.returnType = (some FieldType.int)) (n : Nat) : ∀ (l3 : Int32) (σ : Mem) (H : Heap) (locs : List Loc) (ls : Array Slot), va_S (AA b0) s.heap H locs → Wd G D tc b0 σ H → hL b0 ls 7 [some (.inr (.inr l0)), some (.inl l1), some (.inl l2), some (.inl l3), none, none, none] → Lp (X_X5_leadingMember_2_s G Qx l0 l1 l2) n (l3, σ) → W p l e rm_X5_leadingMember s m args below meth c H locs 0 0 (MQ below (va_Qi Qx (fun u t => Pw G D tc b0 u t) (AA b0)) args s 0 0 (AA b0)) (F0 m 2 ls []) := by
  have hx := C.1
  have hb := C.2.1
  induction n with
  | zero => intro l3 σ H locs ls hS hW hl h; exact False.elim h
  | succ n hK2 =>
    intro l3 σ H locs ls hS hW hl h
    replace h : X_X5_leadingMember_2_s G Qx l0 l1 l2 (Lp (X_X5_leadingMember_2_s G Qx l0 l1 l2) n) (l3, σ) := h
    unfold X_X5_leadingMember_2_s at h
    refine x_iload_n C hl dX5_leadingMember_2 rfl ?_
    refine x_aload_n C hl dX5_leadingMember_3 rfl ?_
    have t1 := h.1
    replace h := h.2
    refine x_get C hW (t := 5) (k := 0) t1 kl_5 (by decide) fl_X5_27 (v := rv b0 (mR σ l0 0)) rfl dX5_leadingMember_4 ?_
    have t2 := h.1
    replace h := h.2
    refine x_get C hW (t := 6) (k := 0) t2 kl_6 (by decide) fl_X5_91 (v := .int (mI σ (mR σ l0 0) 0)) rfl dX5_leadingMember_7 ?_
    refine lv_icmp_ge hx hb dX5_leadingMember_10 (tgt := 101) rfl (fun hc => ?_) (fun hc => ?_)
    · replace h := h.1 hc
      refine lv_iconst (v := (-1 : Int32)) hx hb dX5_leadingMember_101 (by decide) ?_
      exact r_i C hr hW hS h dX5_leadingMember_102
    · replace h := h.2 hc
      refine x_aload_n C hl dX5_leadingMember_13 rfl ?_
      refine x_get C hW (t := 5) (k := 0) t1 kl_5 (by decide) fl_X5_27 (v := rv b0 (mR σ l0 0)) rfl dX5_leadingMember_14 ?_
      refine x_iload_n C hl dX5_leadingMember_17 rfl ?_
      refine y_i (x_run (As := [.int l3]) C hW hS (T_X6_rootOf l (mR σ l0 0) l3 σ _ h) t2 kl_6 (CW.of yv_X6_rootOf ml_X5_53) ⟨rfl, rfl, ⟨by decide, by decide⟩, by decide, by decide⟩ rfl hl.1 rfl (by decide) dX5_leadingMember_18) hS (fun w4 s3 H locs h hW hS => ?_)
      refine x_istore C hl dX5_leadingMember_21 (by decide) rfl (fun ls hl => ?_)
      refine x_aload_n C hl dX5_leadingMember_23 rfl ?_
      refine x_iload C hl dX5_leadingMember_24 rfl ?_
      refine y_i (x_run (As := [.int w4]) C hW hS (T_X5_firstOf l l0 w4 s3 _ h) t1 kl_5 (CW.of yv_X5_firstOf ml_X5_63) ⟨rfl, rfl, ⟨by decide, by decide⟩, by decide, by decide⟩ rfl hl.1 rfl (by decide) dX5_leadingMember_26) hS (fun w6 s5 H locs h hW hS => ?_)
      refine x_istore C hl dX5_leadingMember_29 (by decide) rfl (fun ls hl => ?_)
      exact t_X5_leadingMember_31 C hr hK2 hS hW (hl.keep [true, true, true, true, true, true, false] rfl) h
set_option maxRecDepth 20000 in
set_option maxHeartbeats 4000000 in
theorem t_X5_leadingMember_2 {p : Program} {l : Launch} {e : Env} {s : State} {m : MethodId} {args : Array Value} {below : List Frame} {meth : Method} {c : Code} {H : Heap} {locs : List Loc} {D : va_G} {tc : Nat → ClassId} {b0 : Nat} {ls : Array Slot} {G : Lay} {Qx : Int32 → Mem → Prop} {l0 : Nat} {l1 : Int32} {l2 : Int32} {l3 : Int32}  {σ : Mem} (C : Cx p s m args meth c cX5_leadingMember RX5 7 D tc b0) (hr : meth.sig.returnType = (some FieldType.int)) (hS : va_S (AA b0) s.heap H locs) (hW : Wd G D tc b0 σ H) (hl : hL b0 ls 7 [some (.inr (.inr l0)), some (.inl l1), some (.inl l2), some (.inl l3), none, none, none]) (h : X_X5_leadingMember_2 G Qx l0 l1 l2 l3 σ) : W p l e rm_X5_leadingMember s m args below meth c H locs 0 0 (MQ below (va_Qi Qx (fun u t => Pw G D tc b0 u t) (AA b0)) args s 0 0 (AA b0)) (F0 m 2 ls []) := by
  obtain ⟨n, h⟩ := h
  exact t_X5_leadingMember_2_n C hr n l3 σ H locs ls hS hW hl h
set_option maxRecDepth 20000 in
set_option maxHeartbeats 4000000 in
theorem t_X5_leadingMember_0 {p : Program} {l : Launch} {e : Env} {s : State} {m : MethodId} {args : Array Value} {below : List Frame} {meth : Method} {c : Code} {H : Heap} {locs : List Loc} {D : va_G} {tc : Nat → ClassId} {b0 : Nat} {ls : Array Slot} {G : Lay} {Qx : Int32 → Mem → Prop} {l0 : Nat} {l1 : Int32} {l2 : Int32}  {σ : Mem} (C : Cx p s m args meth c cX5_leadingMember RX5 7 D tc b0) (hr : meth.sig.returnType = (some FieldType.int)) (hS : va_S (AA b0) s.heap H locs) (hW : Wd G D tc b0 σ H) (hl : hL b0 ls 7 [some (.inr (.inr l0)), some (.inl l1), some (.inl l2), none, none, none, none]) (h : X_X5_leadingMember_0 G Qx l0 l1 l2  σ) : W p l e rm_X5_leadingMember s m args below meth c H locs 0 0 (MQ below (va_Qi Qx (fun u t => Pw G D tc b0 u t) (AA b0)) args s 0 0 (AA b0)) (F0 m 0 ls []) := by
  have hx := C.1
  have hb := C.2.1
  unfold X_X5_leadingMember_0 at h
  refine lv_iconst (v := (0 : Int32)) hx hb dX5_leadingMember_0 (by decide) ?_
  refine x_istore_n C hl dX5_leadingMember_1 (by decide) rfl (fun ls hl => ?_)
  exact t_X5_leadingMember_2 C hr hS hW (hl.keep [true, true, true, true, false, false, false] rfl) h
theorem T_X5_leadingMember (l : Launch) {G : Lay} {D : va_G} {tc : Nat → ClassId} {b0 : Nat} (l0 : Nat) (l1 : Int32) (l2 : Int32) (σ : Mem) (Qx : Int32 → Mem → Prop) (h : X_X5_leadingMember G Qx l0 l1 l2 σ) : MI l yX5_leadingMember cX5_leadingMember 7 ((some FieldType.int)) rm_X5_leadingMember G D tc b0 [rv b0 l0, .int l1, .int l2] σ Qx :=
  x_entry (y := yX5_leadingMember) [.inr (.inr l0), .inl l1, .inl l2] 4 (by decide) (Nat.le_of_ble_eq_true rfl) (fun p e s m args below meth c ls C hr hW hl => t_X5_leadingMember_0 C hr va_S.rf hW (hl.keep [true, true, true, false, false, false, false] rfl) h)
/-! X5_firstOwn -/
set_option maxRecDepth 20000 in
set_option maxHeartbeats 4000000 in
theorem t_X5_firstOwn_32 {p : Program} {l : Launch} {e : Env} {s : State} {m : MethodId} {args : Array Value} {below : List Frame} {meth : Method} {c : Code} {H : Heap} {locs : List Loc} {D : va_G} {tc : Nat → ClassId} {b0 : Nat} {ls : Array Slot} {G : Lay} {Qx : Int32 → Mem → Prop}  {k0 : Int32} {σ : Mem} (C : Cx p s m args meth c cX5_firstOwn RX5 3 D tc b0) (hr : meth.sig.returnType = (some FieldType.int)) (hS : va_S (AA b0) s.heap H locs) (hW : Wd G D tc b0 σ H) (hl : hL b0 ls 3 [none, none, none]) (h : X_X5_firstOwn_32 G Qx  k0 σ) : W p l e rm_X5_firstOwn s m args below meth c H locs 0 0 (MQ below (va_Qi Qx (fun u t => Pw G D tc b0 u t) (AA b0)) args s 0 0 (AA b0)) (F0 m 32 ls [.int k0]) := by
  have hx := C.1
  have hb := C.2.1
  unfold X_X5_firstOwn_32 at h
  exact r_i C hr hW hS h dX5_firstOwn_32
set_option maxRecDepth 20000 in
set_option maxHeartbeats 4000000 in
theorem t_X5_firstOwn_0 {p : Program} {l : Launch} {e : Env} {s : State} {m : MethodId} {args : Array Value} {below : List Frame} {meth : Method} {c : Code} {H : Heap} {locs : List Loc} {D : va_G} {tc : Nat → ClassId} {b0 : Nat} {ls : Array Slot} {G : Lay} {Qx : Int32 → Mem → Prop} {l0 : Nat} {l1 : Int32}  {σ : Mem} (C : Cx p s m args meth c cX5_firstOwn RX5 3 D tc b0) (hr : meth.sig.returnType = (some FieldType.int)) (hS : va_S (AA b0) s.heap H locs) (hW : Wd G D tc b0 σ H) (hl : hL b0 ls 3 [some (.inr (.inr l0)), some (.inl l1), none]) (h : X_X5_firstOwn_0 G Qx l0 l1  σ) : W p l e rm_X5_firstOwn s m args below meth c H locs 0 0 (MQ below (va_Qi Qx (fun u t => Pw G D tc b0 u t) (AA b0)) args s 0 0 (AA b0)) (F0 m 0 ls []) := by
  have hx := C.1
  have hb := C.2.1
  unfold X_X5_firstOwn_0 at h
  refine x_aload_n C hl dX5_firstOwn_0 rfl ?_
  have t1 := h.1
  replace h := h.2
  refine x_get C hW (t := 5) (k := 0) t1 kl_5 (by decide) fl_X5_27 (v := rv b0 (mR σ l0 0)) rfl dX5_firstOwn_1 ?_
  refine x_aload_n C hl dX5_firstOwn_4 rfl ?_
  refine x_get C hW (t := 5) (k := 0) t1 kl_5 (by decide) fl_X5_27 (v := rv b0 (mR σ l0 0)) rfl dX5_firstOwn_5 ?_
  have t2 := h.1
  replace h := h.2
  refine x_get C hW (t := 6) (k := 1) t2 kl_6 (by decide) fl_X5_98 (v := rv b0 (mR σ (mR σ l0 0) 1)) rfl dX5_firstOwn_8 ?_
  refine x_iload_n C hl dX5_firstOwn_11 rfl ?_
  have t3 := h.1
  replace h := h.2
  have v4 := h.1
  replace h := h.2
  refine x_aald C hW (t := 103) (t0 := 4) t3 (by decide) rfl v4 dX5_firstOwn_12 ?_
  have t5 := h.1
  replace h := h.2
  refine x_get C hW (t := 1) (k := 1) t5 kl_1 (by decide) fl_X5_128 (v := .int (mI σ (mR σ (mR σ (mR σ l0 0) 1) l1.toNatClampNeg) 1)) rfl dX5_firstOwn_13 ?_
  refine y_r (x_run (As := [.int (mI σ (mR σ (mR σ (mR σ l0 0) 1) l1.toNatClampNeg) 1)]) C hW hS (T_X6_kindAt l (mR σ l0 0) (mI σ (mR σ (mR σ (mR σ l0 0) 1) l1.toNatClampNeg) 1) σ _ h) t2 kl_6 (CW.of yv_X6_kindAt ml_X5_131) ⟨rfl, rfl, ⟨by decide, by decide⟩, by decide, by decide⟩ rfl hl.1 rfl (by decide) dX5_firstOwn_16) hS (fun w7 s6 H locs h hW hS => ?_)
  refine x_astore_n C hl dX5_firstOwn_19 (by decide) rfl (fun ls hl => ?_)
  refine x_aload_n C hl dX5_firstOwn_20 rfl ?_
  refine x_ifnonnull C dX5_firstOwn_21 (tgt := 28) rfl (fun hc => ?_) (fun hc => ?_)
  · replace h := h.2 hc
    refine x_aload_n C hl dX5_firstOwn_28 rfl ?_
    have t8 := h.1
    replace h := h.2
    refine x_get C hW (t := 1) (k := 4) t8 kl_1 (by decide) fl_X5_101 (v := .int (mI s6 w7 4)) rfl dX5_firstOwn_29 ?_
    exact t_X5_firstOwn_32 C hr hS hW (hl.keep [false, false, false] rfl) h
  · replace h := h.1 hc
    refine lv_iconst (v := (0 : Int32)) hx hb dX5_firstOwn_24 (by decide) ?_
    refine lv_goto hx hb dX5_firstOwn_25 (tgt := 32) rfl ?_
    exact t_X5_firstOwn_32 C hr hS hW (hl.keep [false, false, false] rfl) h
theorem T_X5_firstOwn (l : Launch) {G : Lay} {D : va_G} {tc : Nat → ClassId} {b0 : Nat} (l0 : Nat) (l1 : Int32) (σ : Mem) (Qx : Int32 → Mem → Prop) (h : X_X5_firstOwn G Qx l0 l1 σ) : MI l yX5_firstOwn cX5_firstOwn 3 ((some FieldType.int)) rm_X5_firstOwn G D tc b0 [rv b0 l0, .int l1] σ Qx :=
  x_entry (y := yX5_firstOwn) [.inr (.inr l0), .inl l1] 1 (by decide) (Nat.le_of_ble_eq_true rfl) (fun p e s m args below meth c ls C hr hW hl => t_X5_firstOwn_0 C hr va_S.rf hW (hl.keep [true, true, false] rfl) h)
/-! X5_columnFrom -/
set_option maxRecDepth 20000 in
set_option maxHeartbeats 4000000 in
theorem t_X5_columnFrom_53 {p : Program} {l : Launch} {e : Env} {s : State} {m : MethodId} {args : Array Value} {below : List Frame} {meth : Method} {c : Code} {H : Heap} {locs : List Loc} {D : va_G} {tc : Nat → ClassId} {b0 : Nat} {ls : Array Slot} {G : Lay} {Qx : Int32 → Mem → Prop} {l4 : Nat} {l5 : Int32} {l6 : Int32}  {K17 : Int32 × Int32 × Mem → Prop} {σ : Mem} (C : Cx p s m args meth c cX5_columnFrom RX5 7 D tc b0) (hr : meth.sig.returnType = (some FieldType.int)) (hK17 : ∀ (x5 : Int32) (x6 : Int32) (σ : Mem) (H : Heap) (locs : List Loc) (ls : Array Slot), va_S (AA b0) s.heap H locs → Wd G D tc b0 σ H → hL b0 ls 7 [none, none, none, none, some (.inr (.inr l4)), some (.inl x5), some (.inl x6)] → K17 (x5, x6, σ) → W p l e rm_X5_columnFrom s m args below meth c H locs 0 0 (MQ below (va_Qi Qx (fun u t => Pw G D tc b0 u t) (AA b0)) args s 0 0 (AA b0)) (F0 m 17 ls [])) (hS : va_S (AA b0) s.heap H locs) (hW : Wd G D tc b0 σ H) (hl : hL b0 ls 7 [none, none, none, none, some (.inr (.inr l4)), some (.inl l5), some (.inl l6)]) (h : X_X5_columnFrom_53 G Qx K17 l4 l5 l6  σ) : W p l e rm_X5_columnFrom s m args below meth c H locs 0 0 (MQ below (va_Qi Qx (fun u t => Pw G D tc b0 u t) (AA b0)) args s 0 0 (AA b0)) (F0 m 53 ls []) := by
  have hx := C.1
  have hb := C.2.1
  unfold X_X5_columnFrom_53 at h
  refine x_iinc C hl dX5_columnFrom_53 rfl (v := (1 : Int32)) (by decide) (by decide) rfl (fun ls hl => ?_)
  refine lv_goto hx hb dX5_columnFrom_56 (tgt := 17) rfl ?_
  exact hK17 _ _ _ _ _ _ hS hW (hl.keep [false, false, false, false, true, true, true] rfl) h
set_option maxRecDepth 20000 in
set_option maxHeartbeats 4000000 in
theorem t_X5_columnFrom_17_n {p : Program} {l : Launch} {e : Env} {s : State} {m : MethodId} {args : Array Value} {below : List Frame} {meth : Method} {c : Code} {D : va_G} {tc : Nat → ClassId} {b0 : Nat} {G : Lay} {Qx : Int32 → Mem → Prop} {l4 : Nat} (C : Cx p s m args meth c cX5_columnFrom RX5 7 D tc b0) (hr : meth.sig.returnType = (some FieldType.int)) (n : Nat) : ∀ (l5 : Int32) (l6 : Int32) (σ : Mem) (H : Heap) (locs : List Loc) (ls : Array Slot), va_S (AA b0) s.heap H locs → Wd G D tc b0 σ H → hL b0 ls 7 [none, none, none, none, some (.inr (.inr l4)), some (.inl l5), some (.inl l6)] → Lp (X_X5_columnFrom_17_s G Qx l4) n (l5, l6, σ) → W p l e rm_X5_columnFrom s m args below meth c H locs 0 0 (MQ below (va_Qi Qx (fun u t => Pw G D tc b0 u t) (AA b0)) args s 0 0 (AA b0)) (F0 m 17 ls []) := by
  have hx := C.1
  have hb := C.2.1
  induction n with
  | zero => intro l5 l6 σ H locs ls hS hW hl h; exact False.elim h
  | succ n hK17 =>
    intro l5 l6 σ H locs ls hS hW hl h
    replace h : X_X5_columnFrom_17_s G Qx l4 (Lp (X_X5_columnFrom_17_s G Qx l4) n) (l5, l6, σ) := h
    unfold X_X5_columnFrom_17_s at h
    refine x_iload C hl dX5_columnFrom_17 rfl ?_
    refine x_aload C hl dX5_columnFrom_19 rfl ?_
    have t1 := h.1
    replace h := h.2
    refine x_get C hW (t := 1) (k := 4) t1 kl_1 (by decide) fl_X5_101 (v := .int (mI σ l4 4)) rfl dX5_columnFrom_21 ?_
    refine lv_icmp_ge hx hb dX5_columnFrom_24 (tgt := 59) rfl (fun hc => ?_) (fun hc => ?_)
    · replace h := h.1 hc
      refine lv_iconst (v := (-1 : Int32)) hx hb dX5_columnFrom_59 (by decide) ?_
      exact r_i C hr hW hS h dX5_columnFrom_60
    · replace h := h.2 hc
      refine x_aload C hl dX5_columnFrom_27 rfl ?_
      refine x_get C hW (t := 1) (k := 5) t1 kl_1 (by decide) fl_X5_106 (v := rv b0 (mR σ l4 5)) rfl dX5_columnFrom_29 ?_
      refine x_iload C hl dX5_columnFrom_32 rfl ?_
      have t2 := h.1
      replace h := h.2
      have v3 := h.1
      replace h := h.2
      refine x_aald C hW (t := 104) (t0 := 5) t2 (by decide) rfl v3 dX5_columnFrom_34 ?_
      have t4 := h.1
      replace h := h.2
      refine x_get C hW (t := 2) (k := 2) t4 kl_2 (by decide) fl_X5_70 (v := .int (mI σ (mR σ (mR σ l4 5) l6.toNatClampNeg) 2)) rfl dX5_columnFrom_35 ?_
      refine lv_iconst (v := (5 : Int32)) hx hb dX5_columnFrom_38 (by decide) ?_
      refine lv_icmp_eq hx hb dX5_columnFrom_39 (tgt := 53) rfl (fun hc => ?_) (fun hc => ?_)
      · replace h := h.1 hc
        exact t_X5_columnFrom_53 C hr hK17 hS hW (hl.keep [false, false, false, false, true, true, true] rfl) h
      · replace h := h.2 hc
        refine x_iload C hl dX5_columnFrom_42 rfl ?_
        refine lv_if_ne hx hb dX5_columnFrom_44 (tgt := 50) rfl (fun hc => ?_) (fun hc => ?_)
        · replace h := h.2 hc
          refine x_iinc C hl dX5_columnFrom_50 rfl (v := (-1 : Int32)) (by decide) (by decide) rfl (fun ls hl => ?_)
          exact t_X5_columnFrom_53 C hr hK17 hS hW (hl.keep [false, false, false, false, true, true, true] rfl) h
        · replace h := h.1 hc
          refine x_iload C hl dX5_columnFrom_47 rfl ?_
          exact r_i C hr hW hS h dX5_columnFrom_49
set_option maxRecDepth 20000 in
set_option maxHeartbeats 4000000 in
theorem t_X5_columnFrom_17 {p : Program} {l : Launch} {e : Env} {s : State} {m : MethodId} {args : Array Value} {below : List Frame} {meth : Method} {c : Code} {H : Heap} {locs : List Loc} {D : va_G} {tc : Nat → ClassId} {b0 : Nat} {ls : Array Slot} {G : Lay} {Qx : Int32 → Mem → Prop} {l4 : Nat} {l5 : Int32} {l6 : Int32}  {σ : Mem} (C : Cx p s m args meth c cX5_columnFrom RX5 7 D tc b0) (hr : meth.sig.returnType = (some FieldType.int)) (hS : va_S (AA b0) s.heap H locs) (hW : Wd G D tc b0 σ H) (hl : hL b0 ls 7 [none, none, none, none, some (.inr (.inr l4)), some (.inl l5), some (.inl l6)]) (h : X_X5_columnFrom_17 G Qx l4 l5 l6 σ) : W p l e rm_X5_columnFrom s m args below meth c H locs 0 0 (MQ below (va_Qi Qx (fun u t => Pw G D tc b0 u t) (AA b0)) args s 0 0 (AA b0)) (F0 m 17 ls []) := by
  obtain ⟨n, h⟩ := h
  exact t_X5_columnFrom_17_n C hr n l5 l6 σ H locs ls hS hW hl h
set_option maxRecDepth 20000 in
set_option maxHeartbeats 4000000 in
theorem t_X5_columnFrom_0 {p : Program} {l : Launch} {e : Env} {s : State} {m : MethodId} {args : Array Value} {below : List Frame} {meth : Method} {c : Code} {H : Heap} {locs : List Loc} {D : va_G} {tc : Nat → ClassId} {b0 : Nat} {ls : Array Slot} {G : Lay} {Qx : Int32 → Mem → Prop} {l0 : Nat} {l1 : Int32} {l2 : Int32} {l3 : Int32}  {σ : Mem} (C : Cx p s m args meth c cX5_columnFrom RX5 7 D tc b0) (hr : meth.sig.returnType = (some FieldType.int)) (hS : va_S (AA b0) s.heap H locs) (hW : Wd G D tc b0 σ H) (hl : hL b0 ls 7 [some (.inr (.inr l0)), some (.inl l1), some (.inl l2), some (.inl l3), none, none, none]) (h : X_X5_columnFrom_0 G Qx l0 l1 l2 l3  σ) : W p l e rm_X5_columnFrom s m args below meth c H locs 0 0 (MQ below (va_Qi Qx (fun u t => Pw G D tc b0 u t) (AA b0)) args s 0 0 (AA b0)) (F0 m 0 ls []) := by
  have hx := C.1
  have hb := C.2.1
  unfold X_X5_columnFrom_0 at h
  refine x_aload_n C hl dX5_columnFrom_0 rfl ?_
  have t1 := h.1
  replace h := h.2
  refine x_get C hW (t := 5) (k := 0) t1 kl_5 (by decide) fl_X5_27 (v := rv b0 (mR σ l0 0)) rfl dX5_columnFrom_1 ?_
  have t2 := h.1
  replace h := h.2
  refine x_get C hW (t := 6) (k := 1) t2 kl_6 (by decide) fl_X5_98 (v := rv b0 (mR σ (mR σ l0 0) 1)) rfl dX5_columnFrom_4 ?_
  refine x_iload_n C hl dX5_columnFrom_7 rfl ?_
  have t3 := h.1
  replace h := h.2
  have v4 := h.1
  replace h := h.2
  refine x_aald C hW (t := 103) (t0 := 4) t3 (by decide) rfl v4 dX5_columnFrom_8 ?_
  refine x_astore C hl dX5_columnFrom_9 (by decide) rfl (fun ls hl => ?_)
  refine x_iload_n C hl dX5_columnFrom_11 rfl ?_
  refine x_istore C hl dX5_columnFrom_12 (by decide) rfl (fun ls hl => ?_)
  refine x_iload_n C hl dX5_columnFrom_14 rfl ?_
  refine x_istore C hl dX5_columnFrom_15 (by decide) rfl (fun ls hl => ?_)
  exact t_X5_columnFrom_17 C hr hS hW (hl.keep [false, false, false, false, true, true, true] rfl) h
theorem T_X5_columnFrom (l : Launch) {G : Lay} {D : va_G} {tc : Nat → ClassId} {b0 : Nat} (l0 : Nat) (l1 : Int32) (l2 : Int32) (l3 : Int32) (σ : Mem) (Qx : Int32 → Mem → Prop) (h : X_X5_columnFrom G Qx l0 l1 l2 l3 σ) : MI l yX5_columnFrom cX5_columnFrom 7 ((some FieldType.int)) rm_X5_columnFrom G D tc b0 [rv b0 l0, .int l1, .int l2, .int l3] σ Qx :=
  x_entry (y := yX5_columnFrom) [.inr (.inr l0), .inl l1, .inl l2, .inl l3] 3 (by decide) (Nat.le_of_ble_eq_true rfl) (fun p e s m args below meth c ls C hr hW hl => t_X5_columnFrom_0 C hr va_S.rf hW (hl.keep [true, true, true, true, false, false, false] rfl) h)
/-! X5_ownColumn -/
set_option maxRecDepth 20000 in
set_option maxHeartbeats 4000000 in
theorem t_X5_ownColumn_0 {p : Program} {l : Launch} {e : Env} {s : State} {m : MethodId} {args : Array Value} {below : List Frame} {meth : Method} {c : Code} {H : Heap} {locs : List Loc} {D : va_G} {tc : Nat → ClassId} {b0 : Nat} {ls : Array Slot} {G : Lay} {Qx : Int32 → Mem → Prop} {l0 : Nat} {l1 : Int32} {l2 : Int32}  {σ : Mem} (C : Cx p s m args meth c cX5_ownColumn RX5 3 D tc b0) (hr : meth.sig.returnType = (some FieldType.int)) (hS : va_S (AA b0) s.heap H locs) (hW : Wd G D tc b0 σ H) (hl : hL b0 ls 3 [some (.inr (.inr l0)), some (.inl l1), some (.inl l2)]) (h : X_X5_ownColumn_0 G Qx l0 l1 l2  σ) : W p l e rm_X5_ownColumn s m args below meth c H locs 0 0 (MQ below (va_Qi Qx (fun u t => Pw G D tc b0 u t) (AA b0)) args s 0 0 (AA b0)) (F0 m 0 ls []) := by
  have hx := C.1
  have hb := C.2.1
  unfold X_X5_ownColumn_0 at h
  refine x_aload_n C hl dX5_ownColumn_0 rfl ?_
  refine x_iload_n C hl dX5_ownColumn_1 rfl ?_
  refine x_aload_n C hl dX5_ownColumn_2 rfl ?_
  refine x_iload_n C hl dX5_ownColumn_3 rfl ?_
  have t1 := h.1
  replace h := h.2
  refine y_i (x_run (As := [.int l1]) C hW hS (T_X5_firstOwn l l0 l1 σ _ h) t1 kl_5 (CW.of yv_X5_firstOwn ml_X5_125) ⟨rfl, rfl, ⟨by decide, by decide⟩, by decide, by decide⟩ rfl hl.1 rfl (by simp [rv_cat, cat_i, cat_l]) dX5_ownColumn_4) hS (fun w3 s2 H locs h hW hS => ?_)
  refine x_iload_n C hl dX5_ownColumn_7 rfl ?_
  refine y_i (x_run (As := [.int l1, .int w3, .int l2]) C hW hS (T_X5_columnFrom l l0 l1 w3 l2 s2 _ h) t1 kl_5 (CW.of yv_X5_columnFrom ml_X5_122) ⟨rfl, rfl, ⟨by decide, by decide⟩, by decide, by decide⟩ rfl hl.1 rfl (by decide) dX5_ownColumn_8) hS (fun w5 s4 H locs h hW hS => ?_)
  exact r_i C hr hW hS h dX5_ownColumn_11
theorem T_X5_ownColumn (l : Launch) {G : Lay} {D : va_G} {tc : Nat → ClassId} {b0 : Nat} (l0 : Nat) (l1 : Int32) (l2 : Int32) (σ : Mem) (Qx : Int32 → Mem → Prop) (h : X_X5_ownColumn G Qx l0 l1 l2 σ) : MI l yX5_ownColumn cX5_ownColumn 3 ((some FieldType.int)) rm_X5_ownColumn G D tc b0 [rv b0 l0, .int l1, .int l2] σ Qx :=
  x_entry (y := yX5_ownColumn) [.inr (.inr l0), .inl l1, .inl l2] 0 (by decide) (Nat.le_of_ble_eq_true rfl) (fun p e s m args below meth c ls C hr hW hl => t_X5_ownColumn_0 C hr va_S.rf hW (hl.keep [true, true, true] rfl) h)
/-! X5_ownColumns -/
set_option maxRecDepth 20000 in
set_option maxHeartbeats 4000000 in
theorem t_X5_ownColumns_45 {p : Program} {l : Launch} {e : Env} {s : State} {m : MethodId} {args : Array Value} {below : List Frame} {meth : Method} {c : Code} {H : Heap} {locs : List Loc} {D : va_G} {tc : Nat → ClassId} {b0 : Nat} {ls : Array Slot} {G : Lay} {Qx : Int32 → Mem → Prop} {l2 : Nat} {l3 : Int32} {l4 : Int32}  {K19 : Int32 × Int32 × Mem → Prop} {σ : Mem} (C : Cx p s m args meth c cX5_ownColumns RX5 5 D tc b0) (hr : meth.sig.returnType = (some FieldType.int)) (hK19 : ∀ (x3 : Int32) (x4 : Int32) (σ : Mem) (H : Heap) (locs : List Loc) (ls : Array Slot), va_S (AA b0) s.heap H locs → Wd G D tc b0 σ H → hL b0 ls 5 [none, none, some (.inr (.inr l2)), some (.inl x3), some (.inl x4)] → K19 (x3, x4, σ) → W p l e rm_X5_ownColumns s m args below meth c H locs 0 0 (MQ below (va_Qi Qx (fun u t => Pw G D tc b0 u t) (AA b0)) args s 0 0 (AA b0)) (F0 m 19 ls [])) (hS : va_S (AA b0) s.heap H locs) (hW : Wd G D tc b0 σ H) (hl : hL b0 ls 5 [none, none, some (.inr (.inr l2)), some (.inl l3), some (.inl l4)]) (h : X_X5_ownColumns_45 G Qx K19 l2 l3 l4  σ) : W p l e rm_X5_ownColumns s m args below meth c H locs 0 0 (MQ below (va_Qi Qx (fun u t => Pw G D tc b0 u t) (AA b0)) args s 0 0 (AA b0)) (F0 m 45 ls []) := by
  have hx := C.1
  have hb := C.2.1
  unfold X_X5_ownColumns_45 at h
  refine x_iinc C hl dX5_ownColumns_45 rfl (v := (1 : Int32)) (by decide) (by decide) rfl (fun ls hl => ?_)
  refine lv_goto hx hb dX5_ownColumns_48 (tgt := 19) rfl ?_
  exact hK19 _ _ _ _ _ _ hS hW (hl.keep [false, false, true, true, true] rfl) h
set_option maxRecDepth 20000 in
set_option maxHeartbeats 4000000 in
theorem t_X5_ownColumns_19_n {p : Program} {l : Launch} {e : Env} {s : State} {m : MethodId} {args : Array Value} {below : List Frame} {meth : Method} {c : Code} {D : va_G} {tc : Nat → ClassId} {b0 : Nat} {G : Lay} {Qx : Int32 → Mem → Prop} {l2 : Nat} (C : Cx p s m args meth c cX5_ownColumns RX5 5 D tc b0) (hr : meth.sig.returnType = (some FieldType.int)) (n : Nat) : ∀ (l3 : Int32) (l4 : Int32) (σ : Mem) (H : Heap) (locs : List Loc) (ls : Array Slot), va_S (AA b0) s.heap H locs → Wd G D tc b0 σ H → hL b0 ls 5 [none, none, some (.inr (.inr l2)), some (.inl l3), some (.inl l4)] → Lp (X_X5_ownColumns_19_s G Qx l2) n (l3, l4, σ) → W p l e rm_X5_ownColumns s m args below meth c H locs 0 0 (MQ below (va_Qi Qx (fun u t => Pw G D tc b0 u t) (AA b0)) args s 0 0 (AA b0)) (F0 m 19 ls []) := by
  have hx := C.1
  have hb := C.2.1
  induction n with
  | zero => intro l3 l4 σ H locs ls hS hW hl h; exact False.elim h
  | succ n hK19 =>
    intro l3 l4 σ H locs ls hS hW hl h
    replace h : X_X5_ownColumns_19_s G Qx l2 (Lp (X_X5_ownColumns_19_s G Qx l2) n) (l3, l4, σ) := h
    unfold X_X5_ownColumns_19_s at h
    refine x_iload C hl dX5_ownColumns_19 rfl ?_
    refine x_aload_n C hl dX5_ownColumns_21 rfl ?_
    have t1 := h.1
    replace h := h.2
    refine x_get C hW (t := 1) (k := 4) t1 kl_1 (by decide) fl_X5_101 (v := .int (mI σ l2 4)) rfl dX5_ownColumns_22 ?_
    refine lv_icmp_ge hx hb dX5_ownColumns_25 (tgt := 51) rfl (fun hc => ?_) (fun hc => ?_)
    · replace h := h.1 hc
      refine x_iload_n C hl dX5_ownColumns_51 rfl ?_
      exact r_i C hr hW hS h dX5_ownColumns_52
    · replace h := h.2 hc
      refine x_aload_n C hl dX5_ownColumns_28 rfl ?_
      refine x_get C hW (t := 1) (k := 5) t1 kl_1 (by decide) fl_X5_106 (v := rv b0 (mR σ l2 5)) rfl dX5_ownColumns_29 ?_
      refine x_iload C hl dX5_ownColumns_32 rfl ?_
      have t2 := h.1
      replace h := h.2
      have v3 := h.1
      replace h := h.2
      refine x_aald C hW (t := 104) (t0 := 5) t2 (by decide) rfl v3 dX5_ownColumns_34 ?_
      have t4 := h.1
      replace h := h.2
      refine x_get C hW (t := 2) (k := 2) t4 kl_2 (by decide) fl_X5_70 (v := .int (mI σ (mR σ (mR σ l2 5) l4.toNatClampNeg) 2)) rfl dX5_ownColumns_35 ?_
      refine lv_iconst (v := (5 : Int32)) hx hb dX5_ownColumns_38 (by decide) ?_
      refine lv_icmp_eq hx hb dX5_ownColumns_39 (tgt := 45) rfl (fun hc => ?_) (fun hc => ?_)
      · replace h := h.1 hc
        exact t_X5_ownColumns_45 C hr hK19 hS hW (hl.keep [false, false, true, true, true] rfl) h
      · replace h := h.2 hc
        refine x_iinc C hl dX5_ownColumns_42 rfl (v := (1 : Int32)) (by decide) (by decide) rfl (fun ls hl => ?_)
        exact t_X5_ownColumns_45 C hr hK19 hS hW (hl.keep [false, false, true, true, true] rfl) h
set_option maxRecDepth 20000 in
set_option maxHeartbeats 4000000 in
theorem t_X5_ownColumns_19 {p : Program} {l : Launch} {e : Env} {s : State} {m : MethodId} {args : Array Value} {below : List Frame} {meth : Method} {c : Code} {H : Heap} {locs : List Loc} {D : va_G} {tc : Nat → ClassId} {b0 : Nat} {ls : Array Slot} {G : Lay} {Qx : Int32 → Mem → Prop} {l2 : Nat} {l3 : Int32} {l4 : Int32}  {σ : Mem} (C : Cx p s m args meth c cX5_ownColumns RX5 5 D tc b0) (hr : meth.sig.returnType = (some FieldType.int)) (hS : va_S (AA b0) s.heap H locs) (hW : Wd G D tc b0 σ H) (hl : hL b0 ls 5 [none, none, some (.inr (.inr l2)), some (.inl l3), some (.inl l4)]) (h : X_X5_ownColumns_19 G Qx l2 l3 l4 σ) : W p l e rm_X5_ownColumns s m args below meth c H locs 0 0 (MQ below (va_Qi Qx (fun u t => Pw G D tc b0 u t) (AA b0)) args s 0 0 (AA b0)) (F0 m 19 ls []) := by
  obtain ⟨n, h⟩ := h
  exact t_X5_ownColumns_19_n C hr n l3 l4 σ H locs ls hS hW hl h
set_option maxRecDepth 20000 in
set_option maxHeartbeats 4000000 in
theorem t_X5_ownColumns_0 {p : Program} {l : Launch} {e : Env} {s : State} {m : MethodId} {args : Array Value} {below : List Frame} {meth : Method} {c : Code} {H : Heap} {locs : List Loc} {D : va_G} {tc : Nat → ClassId} {b0 : Nat} {ls : Array Slot} {G : Lay} {Qx : Int32 → Mem → Prop} {l0 : Nat} {l1 : Int32}  {σ : Mem} (C : Cx p s m args meth c cX5_ownColumns RX5 5 D tc b0) (hr : meth.sig.returnType = (some FieldType.int)) (hS : va_S (AA b0) s.heap H locs) (hW : Wd G D tc b0 σ H) (hl : hL b0 ls 5 [some (.inr (.inr l0)), some (.inl l1), none, none, none]) (h : X_X5_ownColumns_0 G Qx l0 l1  σ) : W p l e rm_X5_ownColumns s m args below meth c H locs 0 0 (MQ below (va_Qi Qx (fun u t => Pw G D tc b0 u t) (AA b0)) args s 0 0 (AA b0)) (F0 m 0 ls []) := by
  have hx := C.1
  have hb := C.2.1
  unfold X_X5_ownColumns_0 at h
  refine x_aload_n C hl dX5_ownColumns_0 rfl ?_
  have t1 := h.1
  replace h := h.2
  refine x_get C hW (t := 5) (k := 0) t1 kl_5 (by decide) fl_X5_27 (v := rv b0 (mR σ l0 0)) rfl dX5_ownColumns_1 ?_
  have t2 := h.1
  replace h := h.2
  refine x_get C hW (t := 6) (k := 1) t2 kl_6 (by decide) fl_X5_98 (v := rv b0 (mR σ (mR σ l0 0) 1)) rfl dX5_ownColumns_4 ?_
  refine x_iload_n C hl dX5_ownColumns_7 rfl ?_
  have t3 := h.1
  replace h := h.2
  have v4 := h.1
  replace h := h.2
  refine x_aald C hW (t := 103) (t0 := 4) t3 (by decide) rfl v4 dX5_ownColumns_8 ?_
  refine x_astore_n C hl dX5_ownColumns_9 (by decide) rfl (fun ls hl => ?_)
  refine lv_iconst (v := (0 : Int32)) hx hb dX5_ownColumns_10 (by decide) ?_
  refine x_istore_n C hl dX5_ownColumns_11 (by decide) rfl (fun ls hl => ?_)
  refine x_aload_n C hl dX5_ownColumns_12 rfl ?_
  refine x_iload_n C hl dX5_ownColumns_13 rfl ?_
  refine y_i (x_run (As := [.int l1]) C hW hS (T_X5_firstOwn l l0 l1 σ _ h) t1 kl_5 (CW.of yv_X5_firstOwn ml_X5_125) ⟨rfl, rfl, ⟨by decide, by decide⟩, by decide, by decide⟩ rfl hl.1 rfl (by decide) dX5_ownColumns_14) hS (fun w6 s5 H locs h hW hS => ?_)
  refine x_istore C hl dX5_ownColumns_17 (by decide) rfl (fun ls hl => ?_)
  exact t_X5_ownColumns_19 C hr hS hW (hl.keep [false, false, true, true, true] rfl) h
theorem T_X5_ownColumns (l : Launch) {G : Lay} {D : va_G} {tc : Nat → ClassId} {b0 : Nat} (l0 : Nat) (l1 : Int32) (σ : Mem) (Qx : Int32 → Mem → Prop) (h : X_X5_ownColumns G Qx l0 l1 σ) : MI l yX5_ownColumns cX5_ownColumns 5 ((some FieldType.int)) rm_X5_ownColumns G D tc b0 [rv b0 l0, .int l1] σ Qx :=
  x_entry (y := yX5_ownColumns) [.inr (.inr l0), .inl l1] 3 (by decide) (Nat.le_of_ble_eq_true rfl) (fun p e s m args below meth c ls C hr hW hl => t_X5_ownColumns_0 C hr va_S.rf hW (hl.keep [true, true, false, false, false] rfl) h)
/-! X5_oneCell -/
set_option maxRecDepth 20000 in
set_option maxHeartbeats 4000000 in
theorem t_X5_oneCell_26 {p : Program} {l : Launch} {e : Env} {s : State} {m : MethodId} {args : Array Value} {below : List Frame} {meth : Method} {c : Code} {H : Heap} {locs : List Loc} {D : va_G} {tc : Nat → ClassId} {b0 : Nat} {ls : Array Slot} {G : Lay} {Qx : Int64 → Mem → Prop}  {k0 : Int64} {σ : Mem} (C : Cx p s m args meth c cX5_oneCell RX5 7 D tc b0) (hr : meth.sig.returnType = (some FieldType.long)) (hS : va_S (AA b0) s.heap H locs) (hW : Wd G D tc b0 σ H) (hl : hL b0 ls 7 [none, none, none, none, none, none, none]) (h : X_X5_oneCell_26 G Qx  k0 σ) : W p l e rm_X5_oneCell s m args below meth c H locs 0 0 (MQ below (va_Ql Qx (fun u t => Pw G D tc b0 u t) (AA b0)) args s 0 0 (AA b0)) (F0 m 26 ls [.long k0]) := by
  have hx := C.1
  have hb := C.2.1
  unfold X_X5_oneCell_26 at h
  exact r_l C hr hW hS h dX5_oneCell_26
set_option maxRecDepth 20000 in
set_option maxHeartbeats 4000000 in
theorem t_X5_oneCell_108 {p : Program} {l : Launch} {e : Env} {s : State} {m : MethodId} {args : Array Value} {below : List Frame} {meth : Method} {c : Code} {H : Heap} {locs : List Loc} {D : va_G} {tc : Nat → ClassId} {b0 : Nat} {ls : Array Slot} {G : Lay} {Qx : Int64 → Mem → Prop}  {k0 : Int64} {σ : Mem} (C : Cx p s m args meth c cX5_oneCell RX5 7 D tc b0) (hr : meth.sig.returnType = (some FieldType.long)) (hS : va_S (AA b0) s.heap H locs) (hW : Wd G D tc b0 σ H) (hl : hL b0 ls 7 [none, none, none, none, none, none, none]) (h : X_X5_oneCell_108 G Qx  k0 σ) : W p l e rm_X5_oneCell s m args below meth c H locs 0 0 (MQ below (va_Ql Qx (fun u t => Pw G D tc b0 u t) (AA b0)) args s 0 0 (AA b0)) (F0 m 108 ls [.long k0]) := by
  have hx := C.1
  have hb := C.2.1
  unfold X_X5_oneCell_108 at h
  exact r_l C hr hW hS h dX5_oneCell_108
set_option maxRecDepth 20000 in
set_option maxHeartbeats 4000000 in
theorem t_X5_oneCell_120 {p : Program} {l : Launch} {e : Env} {s : State} {m : MethodId} {args : Array Value} {below : List Frame} {meth : Method} {c : Code} {H : Heap} {locs : List Loc} {D : va_G} {tc : Nat → ClassId} {b0 : Nat} {ls : Array Slot} {G : Lay} {Qx : Int64 → Mem → Prop} {l0 : Nat} {l1 : Int32} {l2 : Int32} {l4 : Int32} {l5 : Int32}  {K35 : Int32 × Int32 × Mem → Prop} {σ : Mem} (C : Cx p s m args meth c cX5_oneCell RX5 7 D tc b0) (hr : meth.sig.returnType = (some FieldType.long)) (hK35 : ∀ (x4 : Int32) (x5 : Int32) (σ : Mem) (H : Heap) (locs : List Loc) (ls : Array Slot), va_S (AA b0) s.heap H locs → Wd G D tc b0 σ H → hL b0 ls 7 [some (.inr (.inr l0)), some (.inl l1), some (.inl l2), none, some (.inl x4), some (.inl x5), none] → K35 (x4, x5, σ) → W p l e rm_X5_oneCell s m args below meth c H locs 0 0 (MQ below (va_Ql Qx (fun u t => Pw G D tc b0 u t) (AA b0)) args s 0 0 (AA b0)) (F0 m 35 ls [])) (hS : va_S (AA b0) s.heap H locs) (hW : Wd G D tc b0 σ H) (hl : hL b0 ls 7 [some (.inr (.inr l0)), some (.inl l1), some (.inl l2), none, some (.inl l4), some (.inl l5), none]) (h : X_X5_oneCell_120 G Qx K35 l0 l1 l2 l4 l5  σ) : W p l e rm_X5_oneCell s m args below meth c H locs 0 0 (MQ below (va_Ql Qx (fun u t => Pw G D tc b0 u t) (AA b0)) args s 0 0 (AA b0)) (F0 m 120 ls []) := by
  have hx := C.1
  have hb := C.2.1
  unfold X_X5_oneCell_120 at h
  refine x_iinc C hl dX5_oneCell_120 rfl (v := (1 : Int32)) (by decide) (by decide) rfl (fun ls hl => ?_)
  refine lv_goto hx hb dX5_oneCell_123 (tgt := 35) rfl ?_
  exact hK35 _ _ _ _ _ _ hS hW (hl.keep [true, true, true, false, true, true, false] rfl) h
set_option maxRecDepth 20000 in
set_option maxHeartbeats 4000000 in
theorem t_X5_oneCell_35_n {p : Program} {l : Launch} {e : Env} {s : State} {m : MethodId} {args : Array Value} {below : List Frame} {meth : Method} {c : Code} {D : va_G} {tc : Nat → ClassId} {b0 : Nat} {G : Lay} {Qx : Int64 → Mem → Prop} {l0 : Nat} {l1 : Int32} {l2 : Int32} (C : Cx p s m args meth c cX5_oneCell RX5 7 D tc b0) (hr : meth.sig.returnType = (some FieldType.long)) (n : Nat) : ∀ (l4 : Int32) (l5 : Int32) (σ : Mem) (H : Heap) (locs : List Loc) (ls : Array Slot), va_S (AA b0) s.heap H locs → Wd G D tc b0 σ H → hL b0 ls 7 [some (.inr (.inr l0)), some (.inl l1), some (.inl l2), none, some (.inl l4), some (.inl l5), none] → Lp (X_X5_oneCell_35_s G Qx l0 l1 l2) n (l4, l5, σ) → W p l e rm_X5_oneCell s m args below meth c H locs 0 0 (MQ below (va_Ql Qx (fun u t => Pw G D tc b0 u t) (AA b0)) args s 0 0 (AA b0)) (F0 m 35 ls []) := by
  have hx := C.1
  have hb := C.2.1
  induction n with
  | zero => intro l4 l5 σ H locs ls hS hW hl h; exact False.elim h
  | succ n hK35 =>
    intro l4 l5 σ H locs ls hS hW hl h
    replace h : X_X5_oneCell_35_s G Qx l0 l1 l2 (Lp (X_X5_oneCell_35_s G Qx l0 l1 l2) n) (l4, l5, σ) := h
    unfold X_X5_oneCell_35_s at h
    refine x_iload C hl dX5_oneCell_35 rfl ?_
    refine x_aload_n C hl dX5_oneCell_37 rfl ?_
    have t1 := h.1
    replace h := h.2
    refine x_get C hW (t := 5) (k := 0) t1 kl_5 (by decide) fl_X5_27 (v := rv b0 (mR σ l0 0)) rfl dX5_oneCell_38 ?_
    have t2 := h.1
    replace h := h.2
    refine x_get C hW (t := 6) (k := 0) t2 kl_6 (by decide) fl_X5_91 (v := .int (mI σ (mR σ l0 0) 0)) rfl dX5_oneCell_41 ?_
    refine lv_icmp_ge hx hb dX5_oneCell_44 (tgt := 126) rfl (fun hc => ?_) (fun hc => ?_)
    · replace h := h.1 hc
      refine lv_ldc2 (own := RX5) (v := (-9223372036854775808 : Int64)) hx hb C.2.2.2.1 (C.2.2.2.2.1 _ (gc6 60 rfl rfl)) dX5_oneCell_126 ?_
      exact r_l C hr hW hS h dX5_oneCell_129
    · replace h := h.2 hc
      refine x_aload_n C hl dX5_oneCell_47 rfl ?_
      refine x_get C hW (t := 5) (k := 0) t1 kl_5 (by decide) fl_X5_27 (v := rv b0 (mR σ l0 0)) rfl dX5_oneCell_48 ?_
      refine x_iload C hl dX5_oneCell_51 rfl ?_
      refine y_i (x_run (As := [.int l5]) C hW hS (T_X6_rootOf l (mR σ l0 0) l5 σ _ h) t2 kl_6 (CW.of yv_X6_rootOf ml_X5_53) ⟨rfl, rfl, ⟨by decide, by decide⟩, by decide, by decide⟩ rfl hl.1 rfl (by decide) dX5_oneCell_53) hS (fun w4 s3 H locs h hW hS => ?_)
      refine x_iload_n C hl dX5_oneCell_56 rfl ?_
      refine lv_icmp_ne hx hb dX5_oneCell_57 (tgt := 120) rfl (fun hc => ?_) (fun hc => ?_)
      · replace h := h.2 hc
        exact t_X5_oneCell_120 C hr hK35 hS hW (hl.keep [true, true, true, false, true, true, false] rfl) h
      · replace h := h.1 hc
        refine x_aload_n C hl dX5_oneCell_60 rfl ?_
        refine x_iload C hl dX5_oneCell_61 rfl ?_
        refine x_iload C hl dX5_oneCell_63 rfl ?_
        refine y_i (x_run (As := [.int l5, .int l4]) C hW hS (T_X5_ownColumn l l0 l5 l4 s3 _ h) t1 kl_5 (CW.of yv_X5_ownColumn ml_X5_110) ⟨rfl, rfl, ⟨by decide, by decide⟩, by decide, by decide⟩ rfl hl.1 rfl (by decide) dX5_oneCell_65) hS (fun w6 s5 H locs h hW hS => ?_)
        refine x_istore C hl dX5_oneCell_68 (by decide) rfl (fun ls hl => ?_)
        refine x_iload C hl dX5_oneCell_70 rfl ?_
        refine lv_iconst (v := (-1 : Int32)) hx hb dX5_oneCell_72 (by decide) ?_
        refine lv_icmp_eq hx hb dX5_oneCell_73 (tgt := 109) rfl (fun hc => ?_) (fun hc => ?_)
        · replace h := h.1 hc
          refine x_iload C hl dX5_oneCell_109 rfl ?_
          refine x_aload_n C hl dX5_oneCell_111 rfl ?_
          refine x_iload C hl dX5_oneCell_112 rfl ?_
          refine y_i (x_run (As := [.int l5]) C hW hS (T_X5_ownColumns l l0 l5 s5 _ h) t1 kl_5 (CW.of yv_X5_ownColumns ml_X5_115) ⟨rfl, rfl, ⟨by decide, by decide⟩, by decide, by decide⟩ rfl hl.1 rfl (by simp [rv_cat, cat_i, cat_l]) dX5_oneCell_114) hS (fun w8 s7 H locs h hW hS => ?_)
          refine lv_isub hx hb dX5_oneCell_117 ?_
          refine x_istore C hl dX5_oneCell_118 (by decide) rfl (fun ls hl => ?_)
          exact t_X5_oneCell_120 C hr hK35 hS hW (hl.keep [true, true, true, false, true, true, false] rfl) h
        · replace h := h.2 hc
          refine x_aload_n C hl dX5_oneCell_76 rfl ?_
          refine x_get C hW (t := 5) (k := 0) t1 kl_5 (by decide) fl_X5_27 (v := rv b0 (mR s5 l0 0)) rfl dX5_oneCell_77 ?_
          refine x_aload_n C hl dX5_oneCell_80 rfl ?_
          refine x_get C hW (t := 5) (k := 3) t1 kl_5 (by decide) fl_X5_18 (v := rv b0 (mR s5 l0 3)) rfl dX5_oneCell_81 ?_
          refine x_iload_n C hl dX5_oneCell_84 rfl ?_
          have t9 := h.1
          replace h := h.2
          have v10 := h.1
          replace h := h.2
          refine x_iald C hW t9 v10 dX5_oneCell_85 ?_
          refine x_iload C hl dX5_oneCell_86 rfl ?_
          have t11 := h.1
          replace h := h.2
          refine y_i (x_run (As := [.int (mI s5 (mR s5 l0 3) l2.toNatClampNeg), .int l5]) C hW hS (T_X6_isOf l (mR s5 l0 0) (mI s5 (mR s5 l0 3) l2.toNatClampNeg) l5 s5 _ h) t11 kl_6 (CW.of yv_X6_isOf ml_X5_87) ⟨rfl, rfl, ⟨by decide, by decide⟩, by decide, by decide⟩ rfl hl.1 rfl (by decide) dX5_oneCell_88) hS (fun w13 s12 H locs h hW hS => ?_)
          refine lv_if_eq hx hb dX5_oneCell_91 (tgt := 105) rfl (fun hc => ?_) (fun hc => ?_)
          · replace h := h.1 hc
            refine lv_ldc2 (own := RX5) (v := (-4294967296 : Int64)) hx hb C.2.2.2.1 (C.2.2.2.2.1 _ (gc6 82 rfl rfl)) dX5_oneCell_105 ?_
            exact t_X5_oneCell_108 C hr hS hW (hl.keep [false, false, false, false, false, false, false] rfl) h
          · replace h := h.2 hc
            refine x_aload_n C hl dX5_oneCell_94 rfl ?_
            refine x_iload_n C hl dX5_oneCell_95 rfl ?_
            refine x_iload C hl dX5_oneCell_96 rfl ?_
            refine y_i (x_run (As := [.int l2, .int w6]) C hW hS (T_X5_get l l0 l2 w6 s12 _ h) t1 kl_5 (CW.of yv_X5_get ml_X5_43) ⟨rfl, rfl, ⟨by decide, by decide⟩, by decide, by decide⟩ rfl hl.1 rfl (by decide) dX5_oneCell_98) hS (fun w15 s14 H locs h hW hS => ?_)
            refine lv_i2l hx hb dX5_oneCell_101 rfl ?_
            refine lv_goto hx hb dX5_oneCell_102 (tgt := 108) rfl ?_
            exact t_X5_oneCell_108 C hr hS hW (hl.keep [false, false, false, false, false, false, false] rfl) h
set_option maxRecDepth 20000 in
set_option maxHeartbeats 4000000 in
theorem t_X5_oneCell_35 {p : Program} {l : Launch} {e : Env} {s : State} {m : MethodId} {args : Array Value} {below : List Frame} {meth : Method} {c : Code} {H : Heap} {locs : List Loc} {D : va_G} {tc : Nat → ClassId} {b0 : Nat} {ls : Array Slot} {G : Lay} {Qx : Int64 → Mem → Prop} {l0 : Nat} {l1 : Int32} {l2 : Int32} {l4 : Int32} {l5 : Int32}  {σ : Mem} (C : Cx p s m args meth c cX5_oneCell RX5 7 D tc b0) (hr : meth.sig.returnType = (some FieldType.long)) (hS : va_S (AA b0) s.heap H locs) (hW : Wd G D tc b0 σ H) (hl : hL b0 ls 7 [some (.inr (.inr l0)), some (.inl l1), some (.inl l2), none, some (.inl l4), some (.inl l5), none]) (h : X_X5_oneCell_35 G Qx l0 l1 l2 l4 l5 σ) : W p l e rm_X5_oneCell s m args below meth c H locs 0 0 (MQ below (va_Ql Qx (fun u t => Pw G D tc b0 u t) (AA b0)) args s 0 0 (AA b0)) (F0 m 35 ls []) := by
  obtain ⟨n, h⟩ := h
  exact t_X5_oneCell_35_n C hr n l4 l5 σ H locs ls hS hW hl h
set_option maxRecDepth 20000 in
set_option maxHeartbeats 4000000 in
theorem t_X5_oneCell_0 {p : Program} {l : Launch} {e : Env} {s : State} {m : MethodId} {args : Array Value} {below : List Frame} {meth : Method} {c : Code} {H : Heap} {locs : List Loc} {D : va_G} {tc : Nat → ClassId} {b0 : Nat} {ls : Array Slot} {G : Lay} {Qx : Int64 → Mem → Prop} {l0 : Nat} {l1 : Int32} {l2 : Int32} {l3 : Int32}  {σ : Mem} (C : Cx p s m args meth c cX5_oneCell RX5 7 D tc b0) (hr : meth.sig.returnType = (some FieldType.long)) (hS : va_S (AA b0) s.heap H locs) (hW : Wd G D tc b0 σ H) (hl : hL b0 ls 7 [some (.inr (.inr l0)), some (.inl l1), some (.inl l2), some (.inl l3), none, none, none]) (h : X_X5_oneCell_0 G Qx l0 l1 l2 l3  σ) : W p l e rm_X5_oneCell s m args below meth c H locs 0 0 (MQ below (va_Ql Qx (fun u t => Pw G D tc b0 u t) (AA b0)) args s 0 0 (AA b0)) (F0 m 0 ls []) := by
  have hx := C.1
  have hb := C.2.1
  unfold X_X5_oneCell_0 at h
  refine x_iload_n C hl dX5_oneCell_0 rfl ?_
  refine lv_iconst (v := (2 : Int32)) hx hb dX5_oneCell_1 (by decide) ?_
  refine lv_icmp_ge hx hb dX5_oneCell_2 (tgt := 27) rfl (fun hc => ?_) (fun hc => ?_)
  · replace h := h.1 hc
    refine x_iload_n C hl dX5_oneCell_27 rfl ?_
    refine lv_iconst (v := (2 : Int32)) hx hb dX5_oneCell_28 (by decide) ?_
    refine lv_isub hx hb dX5_oneCell_29 ?_
    refine x_istore C hl dX5_oneCell_30 (by decide) rfl (fun ls hl => ?_)
    refine x_iload_n C hl dX5_oneCell_32 rfl ?_
    refine x_istore C hl dX5_oneCell_33 (by decide) rfl (fun ls hl => ?_)
    exact t_X5_oneCell_35 C hr hS hW (hl.keep [true, true, true, false, true, true, false] rfl) h
  · replace h := h.2 hc
    refine x_iload_n C hl dX5_oneCell_5 rfl ?_
    refine lv_if_ne hx hb dX5_oneCell_6 (tgt := 19) rfl (fun hc => ?_) (fun hc => ?_)
    · replace h := h.2 hc
      refine x_aload_n C hl dX5_oneCell_19 rfl ?_
      have t1 := h.1
      replace h := h.2
      refine x_get C hW (t := 5) (k := 4) t1 kl_5 (by decide) fl_X5_21 (v := rv b0 (mR σ l0 4)) rfl dX5_oneCell_20 ?_
      refine x_iload_n C hl dX5_oneCell_23 rfl ?_
      have t2 := h.1
      replace h := h.2
      have v3 := h.1
      replace h := h.2
      refine x_iald C hW t2 v3 dX5_oneCell_24 ?_
      refine lv_i2l hx hb dX5_oneCell_25 rfl ?_
      exact t_X5_oneCell_26 C hr hS hW (hl.keep [false, false, false, false, false, false, false] rfl) h
    · replace h := h.1 hc
      refine x_aload_n C hl dX5_oneCell_9 rfl ?_
      have t4 := h.1
      replace h := h.2
      refine x_get C hW (t := 5) (k := 3) t4 kl_5 (by decide) fl_X5_18 (v := rv b0 (mR σ l0 3)) rfl dX5_oneCell_10 ?_
      refine x_iload_n C hl dX5_oneCell_13 rfl ?_
      have t5 := h.1
      replace h := h.2
      have v6 := h.1
      replace h := h.2
      refine x_iald C hW t5 v6 dX5_oneCell_14 ?_
      refine lv_i2l hx hb dX5_oneCell_15 rfl ?_
      refine lv_goto hx hb dX5_oneCell_16 (tgt := 26) rfl ?_
      exact t_X5_oneCell_26 C hr hS hW (hl.keep [false, false, false, false, false, false, false] rfl) h
theorem T_X5_oneCell (l : Launch) {G : Lay} {D : va_G} {tc : Nat → ClassId} {b0 : Nat} (l0 : Nat) (l1 : Int32) (l2 : Int32) (l3 : Int32) (σ : Mem) (Qx : Int64 → Mem → Prop) (h : X_X5_oneCell G Qx l0 l1 l2 l3 σ) : ML l yX5_oneCell cX5_oneCell 7 ((some FieldType.long)) rm_X5_oneCell G D tc b0 [rv b0 l0, .int l1, .int l2, .int l3] σ Qx :=
  x_entry (y := yX5_oneCell) [.inr (.inr l0), .inl l1, .inl l2, .inl l3] 3 (by decide) (Nat.le_of_ble_eq_true rfl) (fun p e s m args below meth c ls C hr hW hl => t_X5_oneCell_0 C hr va_S.rf hW (hl.keep [true, true, true, true, false, false, false] rfl) h)
/-! X5_joinedCell -/
set_option maxRecDepth 20000 in
set_option maxHeartbeats 4000000 in
theorem t_X5_joinedCell_71 {p : Program} {l : Launch} {e : Env} {s : State} {m : MethodId} {args : Array Value} {below : List Frame} {meth : Method} {c : Code} {H : Heap} {locs : List Loc} {D : va_G} {tc : Nat → ClassId} {b0 : Nat} {ls : Array Slot} {G : Lay} {Qx : Int64 → Mem → Prop}  {k0 : Int64} {σ : Mem} (C : Cx p s m args meth c cX5_joinedCell RX5 6 D tc b0) (hr : meth.sig.returnType = (some FieldType.long)) (hS : va_S (AA b0) s.heap H locs) (hW : Wd G D tc b0 σ H) (hl : hL b0 ls 6 [none, none, none, none, none, none]) (h : X_X5_joinedCell_71 G Qx  k0 σ) : W p l e rm_X5_joinedCell s m args below meth c H locs 0 0 (MQ below (va_Ql Qx (fun u t => Pw G D tc b0 u t) (AA b0)) args s 0 0 (AA b0)) (F0 m 71 ls [.long k0]) := by
  have hx := C.1
  have hb := C.2.1
  unfold X_X5_joinedCell_71 at h
  exact r_l C hr hW hS h dX5_joinedCell_71
set_option maxRecDepth 20000 in
set_option maxHeartbeats 4000000 in
theorem t_X5_joinedCell_111 {p : Program} {l : Launch} {e : Env} {s : State} {m : MethodId} {args : Array Value} {below : List Frame} {meth : Method} {c : Code} {H : Heap} {locs : List Loc} {D : va_G} {tc : Nat → ClassId} {b0 : Nat} {ls : Array Slot} {G : Lay} {Qx : Int64 → Mem → Prop}  {k0 : Int64} {σ : Mem} (C : Cx p s m args meth c cX5_joinedCell RX5 6 D tc b0) (hr : meth.sig.returnType = (some FieldType.long)) (hS : va_S (AA b0) s.heap H locs) (hW : Wd G D tc b0 σ H) (hl : hL b0 ls 6 [none, none, none, none, none, none]) (h : X_X5_joinedCell_111 G Qx  k0 σ) : W p l e rm_X5_joinedCell s m args below meth c H locs 0 0 (MQ below (va_Ql Qx (fun u t => Pw G D tc b0 u t) (AA b0)) args s 0 0 (AA b0)) (F0 m 111 ls [.long k0]) := by
  have hx := C.1
  have hb := C.2.1
  unfold X_X5_joinedCell_111 at h
  exact r_l C hr hW hS h dX5_joinedCell_111
set_option maxRecDepth 20000 in
set_option maxHeartbeats 4000000 in
theorem t_X5_joinedCell_86 {p : Program} {l : Launch} {e : Env} {s : State} {m : MethodId} {args : Array Value} {below : List Frame} {meth : Method} {c : Code} {H : Heap} {locs : List Loc} {D : va_G} {tc : Nat → ClassId} {b0 : Nat} {ls : Array Slot} {G : Lay} {Qx : Int64 → Mem → Prop} {l0 : Nat} {l2 : Int32} {k0 : Nat} {k1 : Int32} {k2 : Int32} {σ : Mem} (C : Cx p s m args meth c cX5_joinedCell RX5 6 D tc b0) (hr : meth.sig.returnType = (some FieldType.long)) (hS : va_S (AA b0) s.heap H locs) (hW : Wd G D tc b0 σ H) (hl : hL b0 ls 6 [some (.inr (.inr l0)), none, some (.inl l2), none, none, none]) (h : X_X5_joinedCell_86 G Qx l0 l2 k0 k1 k2 σ) : W p l e rm_X5_joinedCell s m args below meth c H locs 0 0 (MQ below (va_Ql Qx (fun u t => Pw G D tc b0 u t) (AA b0)) args s 0 0 (AA b0)) (F0 m 86 ls [.int k2, .int k1, rv b0 k0]) := by
  have hx := C.1
  have hb := C.2.1
  unfold X_X5_joinedCell_86 at h
  have t1 := h.1
  replace h := h.2
  refine y_i (x_run (As := [.int k1, .int k2]) C hW hS (T_X5_ownColumn l k0 k1 k2 σ _ h) t1 kl_5 (CW.of yv_X5_ownColumn ml_X5_110) ⟨rfl, rfl, ⟨by decide, by decide⟩, by decide, by decide⟩ rfl hl.1 rfl (by decide) dX5_joinedCell_86) hS (fun w3 s2 H locs h hW hS => ?_)
  refine x_istore C hl dX5_joinedCell_89 (by decide) rfl (fun ls hl => ?_)
  refine x_iload C hl dX5_joinedCell_91 rfl ?_
  refine lv_iconst (v := (-1 : Int32)) hx hb dX5_joinedCell_93 (by decide) ?_
  refine lv_icmp_ne hx hb dX5_joinedCell_94 (tgt := 103) rfl (fun hc => ?_) (fun hc => ?_)
  · replace h := h.2 hc
    refine x_aload_n C hl dX5_joinedCell_103 rfl ?_
    refine x_iload_n C hl dX5_joinedCell_104 rfl ?_
    refine x_iload C hl dX5_joinedCell_105 rfl ?_
    have t4 := h.1
    replace h := h.2
    refine y_i (x_run (As := [.int l2, .int w3]) C hW hS (T_X5_get l l0 l2 w3 s2 _ h) t4 kl_5 (CW.of yv_X5_get ml_X5_43) ⟨rfl, rfl, ⟨by decide, by decide⟩, by decide, by decide⟩ rfl hl.1 rfl (by decide) dX5_joinedCell_107) hS (fun w6 s5 H locs h hW hS => ?_)
    refine lv_i2l hx hb dX5_joinedCell_110 rfl ?_
    exact t_X5_joinedCell_111 C hr hS hW (hl.keep [false, false, false, false, false, false] rfl) h
  · replace h := h.1 hc
    refine lv_ldc2 (own := RX5) (v := (-9223372036854775808 : Int64)) hx hb C.2.2.2.1 (C.2.2.2.2.1 _ (gc6 60 rfl rfl)) dX5_joinedCell_97 ?_
    refine lv_goto hx hb dX5_joinedCell_100 (tgt := 111) rfl ?_
    exact t_X5_joinedCell_111 C hr hS hW (hl.keep [false, false, false, false, false, false] rfl) h
set_option maxRecDepth 20000 in
set_option maxHeartbeats 4000000 in
theorem t_X5_joinedCell_72 {p : Program} {l : Launch} {e : Env} {s : State} {m : MethodId} {args : Array Value} {below : List Frame} {meth : Method} {c : Code} {H : Heap} {locs : List Loc} {D : va_G} {tc : Nat → ClassId} {b0 : Nat} {ls : Array Slot} {G : Lay} {Qx : Int64 → Mem → Prop} {l0 : Nat} {l1 : Int32} {l2 : Int32} {l3 : Int32} {l4 : Int32}  {σ : Mem} (C : Cx p s m args meth c cX5_joinedCell RX5 6 D tc b0) (hr : meth.sig.returnType = (some FieldType.long)) (hS : va_S (AA b0) s.heap H locs) (hW : Wd G D tc b0 σ H) (hl : hL b0 ls 6 [some (.inr (.inr l0)), some (.inl l1), some (.inl l2), some (.inl l3), some (.inl l4), none]) (h : X_X5_joinedCell_72 G Qx l0 l1 l2 l3 l4  σ) : W p l e rm_X5_joinedCell s m args below meth c H locs 0 0 (MQ below (va_Ql Qx (fun u t => Pw G D tc b0 u t) (AA b0)) args s 0 0 (AA b0)) (F0 m 72 ls []) := by
  have hx := C.1
  have hb := C.2.1
  unfold X_X5_joinedCell_72 at h
  refine x_aload_n C hl dX5_joinedCell_72 rfl ?_
  refine x_iload_n C hl dX5_joinedCell_73 rfl ?_
  refine x_iload C hl dX5_joinedCell_74 rfl ?_
  refine lv_if_eq hx hb dX5_joinedCell_76 (tgt := 85) rfl (fun hc => ?_) (fun hc => ?_)
  · replace h := h.1 hc
    refine x_iload_n C hl dX5_joinedCell_85 rfl ?_
    exact t_X5_joinedCell_86 C hr hS hW (hl.keep [true, false, true, false, false, false] rfl) h
  · replace h := h.2 hc
    refine x_iload_n C hl dX5_joinedCell_79 rfl ?_
    refine lv_iconst (v := (2 : Int32)) hx hb dX5_joinedCell_80 (by decide) ?_
    refine lv_isub hx hb dX5_joinedCell_81 ?_
    refine lv_goto hx hb dX5_joinedCell_82 (tgt := 86) rfl ?_
    exact t_X5_joinedCell_86 C hr hS hW (hl.keep [true, false, true, false, false, false] rfl) h
set_option maxRecDepth 20000 in
set_option maxHeartbeats 4000000 in
theorem t_X5_joinedCell_38 {p : Program} {l : Launch} {e : Env} {s : State} {m : MethodId} {args : Array Value} {below : List Frame} {meth : Method} {c : Code} {H : Heap} {locs : List Loc} {D : va_G} {tc : Nat → ClassId} {b0 : Nat} {ls : Array Slot} {G : Lay} {Qx : Int64 → Mem → Prop} {l0 : Nat} {l1 : Int32} {l2 : Int32} {l3 : Int32} {k0 : Int32} {σ : Mem} (C : Cx p s m args meth c cX5_joinedCell RX5 6 D tc b0) (hr : meth.sig.returnType = (some FieldType.long)) (hS : va_S (AA b0) s.heap H locs) (hW : Wd G D tc b0 σ H) (hl : hL b0 ls 6 [some (.inr (.inr l0)), some (.inl l1), some (.inl l2), some (.inl l3), none, none]) (h : X_X5_joinedCell_38 G Qx l0 l1 l2 l3 k0 σ) : W p l e rm_X5_joinedCell s m args below meth c H locs 0 0 (MQ below (va_Ql Qx (fun u t => Pw G D tc b0 u t) (AA b0)) args s 0 0 (AA b0)) (F0 m 38 ls [.int k0]) := by
  have hx := C.1
  have hb := C.2.1
  unfold X_X5_joinedCell_38 at h
  refine x_istore C hl dX5_joinedCell_38 (by decide) rfl (fun ls hl => ?_)
  refine x_iload C hl dX5_joinedCell_40 rfl ?_
  refine lv_if_eq hx hb dX5_joinedCell_42 (tgt := 72) rfl (fun hc => ?_) (fun hc => ?_)
  · replace h := h.1 hc
    exact t_X5_joinedCell_72 C hr hS hW (hl.keep [true, true, true, true, true, false] rfl) h
  · replace h := h.2 hc
    refine x_iload_n C hl dX5_joinedCell_45 rfl ?_
    refine lv_iconst (v := (2 : Int32)) hx hb dX5_joinedCell_46 (by decide) ?_
    refine lv_icmp_ge hx hb dX5_joinedCell_47 (tgt := 72) rfl (fun hc => ?_) (fun hc => ?_)
    · replace h := h.1 hc
      exact t_X5_joinedCell_72 C hr hS hW (hl.keep [true, true, true, true, true, false] rfl) h
    · replace h := h.2 hc
      refine x_iload_n C hl dX5_joinedCell_50 rfl ?_
      refine lv_if_ne hx hb dX5_joinedCell_51 (tgt := 64) rfl (fun hc => ?_) (fun hc => ?_)
      · replace h := h.2 hc
        refine x_aload_n C hl dX5_joinedCell_64 rfl ?_
        have t1 := h.1
        replace h := h.2
        refine x_get C hW (t := 5) (k := 4) t1 kl_5 (by decide) fl_X5_21 (v := rv b0 (mR σ l0 4)) rfl dX5_joinedCell_65 ?_
        refine x_iload_n C hl dX5_joinedCell_68 rfl ?_
        have t2 := h.1
        replace h := h.2
        have v3 := h.1
        replace h := h.2
        refine x_iald C hW t2 v3 dX5_joinedCell_69 ?_
        refine lv_i2l hx hb dX5_joinedCell_70 rfl ?_
        exact t_X5_joinedCell_71 C hr hS hW (hl.keep [false, false, false, false, false, false] rfl) h
      · replace h := h.1 hc
        refine x_aload_n C hl dX5_joinedCell_54 rfl ?_
        have t4 := h.1
        replace h := h.2
        refine x_get C hW (t := 5) (k := 3) t4 kl_5 (by decide) fl_X5_18 (v := rv b0 (mR σ l0 3)) rfl dX5_joinedCell_55 ?_
        refine x_iload_n C hl dX5_joinedCell_58 rfl ?_
        have t5 := h.1
        replace h := h.2
        have v6 := h.1
        replace h := h.2
        refine x_iald C hW t5 v6 dX5_joinedCell_59 ?_
        refine lv_i2l hx hb dX5_joinedCell_60 rfl ?_
        refine lv_goto hx hb dX5_joinedCell_61 (tgt := 71) rfl ?_
        exact t_X5_joinedCell_71 C hr hS hW (hl.keep [false, false, false, false, false, false] rfl) h
set_option maxRecDepth 20000 in
set_option maxHeartbeats 4000000 in
theorem t_X5_joinedCell_0 {p : Program} {l : Launch} {e : Env} {s : State} {m : MethodId} {args : Array Value} {below : List Frame} {meth : Method} {c : Code} {H : Heap} {locs : List Loc} {D : va_G} {tc : Nat → ClassId} {b0 : Nat} {ls : Array Slot} {G : Lay} {Qx : Int64 → Mem → Prop} {l0 : Nat} {l1 : Int32} {l2 : Int32} {l3 : Int32}  {σ : Mem} (C : Cx p s m args meth c cX5_joinedCell RX5 6 D tc b0) (hr : meth.sig.returnType = (some FieldType.long)) (hS : va_S (AA b0) s.heap H locs) (hW : Wd G D tc b0 σ H) (hl : hL b0 ls 6 [some (.inr (.inr l0)), some (.inl l1), some (.inl l2), some (.inl l3), none, none]) (h : X_X5_joinedCell_0 G Qx l0 l1 l2 l3  σ) : W p l e rm_X5_joinedCell s m args below meth c H locs 0 0 (MQ below (va_Ql Qx (fun u t => Pw G D tc b0 u t) (AA b0)) args s 0 0 (AA b0)) (F0 m 0 ls []) := by
  have hx := C.1
  have hb := C.2.1
  unfold X_X5_joinedCell_0 at h
  refine x_aload_n C hl dX5_joinedCell_0 rfl ?_
  have t1 := h.1
  replace h := h.2
  refine x_get C hW (t := 5) (k := 0) t1 kl_5 (by decide) fl_X5_27 (v := rv b0 (mR σ l0 0)) rfl dX5_joinedCell_1 ?_
  refine x_aload_n C hl dX5_joinedCell_4 rfl ?_
  refine x_get C hW (t := 5) (k := 3) t1 kl_5 (by decide) fl_X5_18 (v := rv b0 (mR σ l0 3)) rfl dX5_joinedCell_5 ?_
  refine x_iload_n C hl dX5_joinedCell_8 rfl ?_
  have t2 := h.1
  replace h := h.2
  have v3 := h.1
  replace h := h.2
  refine x_iald C hW t2 v3 dX5_joinedCell_9 ?_
  refine x_iload_n C hl dX5_joinedCell_10 rfl ?_
  have t4 := h.1
  replace h := h.2
  refine y_i (x_run (As := [.int (mI σ (mR σ l0 3) l2.toNatClampNeg), .int l1]) C hW hS (T_X6_isOf l (mR σ l0 0) (mI σ (mR σ l0 3) l2.toNatClampNeg) l1 σ _ h) t4 kl_6 (CW.of yv_X6_isOf ml_X5_87) ⟨rfl, rfl, ⟨by decide, by decide⟩, by decide, by decide⟩ rfl hl.1 rfl (by decide) dX5_joinedCell_11) hS (fun w6 s5 H locs h hW hS => ?_)
  refine lv_if_ne hx hb dX5_joinedCell_14 (tgt := 21) rfl (fun hc => ?_) (fun hc => ?_)
  · replace h := h.2 hc
    refine x_aload_n C hl dX5_joinedCell_21 rfl ?_
    refine x_get C hW (t := 5) (k := 0) t1 kl_5 (by decide) fl_X5_27 (v := rv b0 (mR s5 l0 0)) rfl dX5_joinedCell_22 ?_
    refine x_iload_n C hl dX5_joinedCell_25 rfl ?_
    have t7 := h.1
    replace h := h.2
    refine y_i (x_run (As := [.int l1]) C hW hS (T_X6_rootOf l (mR s5 l0 0) l1 s5 _ h) t7 kl_6 (CW.of yv_X6_rootOf ml_X5_53) ⟨rfl, rfl, ⟨by decide, by decide⟩, by decide, by decide⟩ rfl hl.1 rfl (by decide) dX5_joinedCell_26) hS (fun w9 s8 H locs h hW hS => ?_)
    refine x_iload_n C hl dX5_joinedCell_29 rfl ?_
    refine lv_icmp_ne hx hb dX5_joinedCell_30 (tgt := 37) rfl (fun hc => ?_) (fun hc => ?_)
    · replace h := h.2 hc
      refine lv_iconst (v := (0 : Int32)) hx hb dX5_joinedCell_37 (by decide) ?_
      exact t_X5_joinedCell_38 C hr hS hW (hl.keep [true, true, true, true, false, false] rfl) h
    · replace h := h.1 hc
      refine lv_iconst (v := (1 : Int32)) hx hb dX5_joinedCell_33 (by decide) ?_
      refine lv_goto hx hb dX5_joinedCell_34 (tgt := 38) rfl ?_
      exact t_X5_joinedCell_38 C hr hS hW (hl.keep [true, true, true, true, false, false] rfl) h
  · replace h := h.1 hc
    refine lv_ldc2 (own := RX5) (v := (-9223372036854775808 : Int64)) hx hb C.2.2.2.1 (C.2.2.2.2.1 _ (gc6 60 rfl rfl)) dX5_joinedCell_17 ?_
    exact r_l C hr hW hS h dX5_joinedCell_20
theorem T_X5_joinedCell (l : Launch) {G : Lay} {D : va_G} {tc : Nat → ClassId} {b0 : Nat} (l0 : Nat) (l1 : Int32) (l2 : Int32) (l3 : Int32) (σ : Mem) (Qx : Int64 → Mem → Prop) (h : X_X5_joinedCell G Qx l0 l1 l2 l3 σ) : ML l yX5_joinedCell cX5_joinedCell 6 ((some FieldType.long)) rm_X5_joinedCell G D tc b0 [rv b0 l0, .int l1, .int l2, .int l3] σ Qx :=
  x_entry (y := yX5_joinedCell) [.inr (.inr l0), .inl l1, .inl l2, .inl l3] 2 (by decide) (Nat.le_of_ble_eq_true rfl) (fun p e s m args below meth c ls C hr hW hl => t_X5_joinedCell_0 C hr va_S.rf hW (hl.keep [true, true, true, true, false, false] rfl) h)
/-! X5_ownCell -/
set_option maxRecDepth 20000 in
set_option maxHeartbeats 4000000 in
theorem t_X5_ownCell_57 {p : Program} {l : Launch} {e : Env} {s : State} {m : MethodId} {args : Array Value} {below : List Frame} {meth : Method} {c : Code} {H : Heap} {locs : List Loc} {D : va_G} {tc : Nat → ClassId} {b0 : Nat} {ls : Array Slot} {G : Lay} {Qx : Int64 → Mem → Prop}  {k0 : Int64} {σ : Mem} (C : Cx p s m args meth c cX5_ownCell RX5 5 D tc b0) (hr : meth.sig.returnType = (some FieldType.long)) (hS : va_S (AA b0) s.heap H locs) (hW : Wd G D tc b0 σ H) (hl : hL b0 ls 5 [none, none, none, none, none]) (h : X_X5_ownCell_57 G Qx  k0 σ) : W p l e rm_X5_ownCell s m args below meth c H locs 0 0 (MQ below (va_Ql Qx (fun u t => Pw G D tc b0 u t) (AA b0)) args s 0 0 (AA b0)) (F0 m 57 ls [.long k0]) := by
  have hx := C.1
  have hb := C.2.1
  unfold X_X5_ownCell_57 at h
  exact r_l C hr hW hS h dX5_ownCell_57
set_option maxRecDepth 20000 in
set_option maxHeartbeats 4000000 in
theorem t_X5_ownCell_0 {p : Program} {l : Launch} {e : Env} {s : State} {m : MethodId} {args : Array Value} {below : List Frame} {meth : Method} {c : Code} {H : Heap} {locs : List Loc} {D : va_G} {tc : Nat → ClassId} {b0 : Nat} {ls : Array Slot} {G : Lay} {Qx : Int64 → Mem → Prop} {l0 : Nat} {l1 : Int32} {l2 : Int32} {l3 : Int32}  {σ : Mem} (C : Cx p s m args meth c cX5_ownCell RX5 5 D tc b0) (hr : meth.sig.returnType = (some FieldType.long)) (hS : va_S (AA b0) s.heap H locs) (hW : Wd G D tc b0 σ H) (hl : hL b0 ls 5 [some (.inr (.inr l0)), some (.inl l1), some (.inl l2), some (.inl l3), none]) (h : X_X5_ownCell_0 G Qx l0 l1 l2 l3  σ) : W p l e rm_X5_ownCell s m args below meth c H locs 0 0 (MQ below (va_Ql Qx (fun u t => Pw G D tc b0 u t) (AA b0)) args s 0 0 (AA b0)) (F0 m 0 ls []) := by
  have hx := C.1
  have hb := C.2.1
  unfold X_X5_ownCell_0 at h
  refine x_aload_n C hl dX5_ownCell_0 rfl ?_
  have t1 := h.1
  replace h := h.2
  refine x_get C hW (t := 5) (k := 3) t1 kl_5 (by decide) fl_X5_18 (v := rv b0 (mR σ l0 3)) rfl dX5_ownCell_1 ?_
  refine x_iload_n C hl dX5_ownCell_4 rfl ?_
  have t2 := h.1
  replace h := h.2
  have v3 := h.1
  replace h := h.2
  refine x_iald C hW t2 v3 dX5_ownCell_5 ?_
  refine x_iload_n C hl dX5_ownCell_6 rfl ?_
  refine lv_icmp_eq hx hb dX5_ownCell_7 (tgt := 14) rfl (fun hc => ?_) (fun hc => ?_)
  · replace h := h.1 hc
    refine x_iload_n C hl dX5_ownCell_14 rfl ?_
    refine lv_if_ne hx hb dX5_ownCell_15 (tgt := 26) rfl (fun hc => ?_) (fun hc => ?_)
    · replace h := h.2 hc
      refine x_aload_n C hl dX5_ownCell_26 rfl ?_
      refine x_iload_n C hl dX5_ownCell_27 rfl ?_
      refine lv_iconst (v := (0 : Int32)) hx hb dX5_ownCell_28 (by decide) ?_
      refine x_iload_n C hl dX5_ownCell_29 rfl ?_
      refine lv_iconst (v := (1 : Int32)) hx hb dX5_ownCell_30 (by decide) ?_
      refine lv_isub hx hb dX5_ownCell_31 ?_
      refine y_i (x_run (As := [.int l1, .int (0 : Int32), .int (l3 - (1 : Int32))]) C hW hS (T_X5_columnFrom l l0 l1 (0 : Int32) (l3 - (1 : Int32)) σ _ h) t1 kl_5 (CW.of yv_X5_columnFrom ml_X5_122) ⟨rfl, rfl, ⟨by decide, by decide⟩, by decide, by decide⟩ rfl hl.1 rfl (by decide) dX5_ownCell_32) hS (fun w5 s4 H locs h hW hS => ?_)
      refine x_istore C hl dX5_ownCell_35 (by decide) rfl (fun ls hl => ?_)
      refine x_iload C hl dX5_ownCell_37 rfl ?_
      refine lv_iconst (v := (-1 : Int32)) hx hb dX5_ownCell_39 (by decide) ?_
      refine lv_icmp_ne hx hb dX5_ownCell_40 (tgt := 49) rfl (fun hc => ?_) (fun hc => ?_)
      · replace h := h.2 hc
        refine x_aload_n C hl dX5_ownCell_49 rfl ?_
        refine x_iload_n C hl dX5_ownCell_50 rfl ?_
        refine x_iload C hl dX5_ownCell_51 rfl ?_
        refine y_i (x_run (As := [.int l2, .int w5]) C hW hS (T_X5_get l l0 l2 w5 s4 _ h) t1 kl_5 (CW.of yv_X5_get ml_X5_43) ⟨rfl, rfl, ⟨by decide, by decide⟩, by decide, by decide⟩ rfl hl.1 rfl (by decide) dX5_ownCell_53) hS (fun w7 s6 H locs h hW hS => ?_)
        refine lv_i2l hx hb dX5_ownCell_56 rfl ?_
        exact t_X5_ownCell_57 C hr hS hW (hl.keep [false, false, false, false, false] rfl) h
      · replace h := h.1 hc
        refine lv_ldc2 (own := RX5) (v := (-9223372036854775808 : Int64)) hx hb C.2.2.2.1 (C.2.2.2.2.1 _ (gc6 60 rfl rfl)) dX5_ownCell_43 ?_
        refine lv_goto hx hb dX5_ownCell_46 (tgt := 57) rfl ?_
        exact t_X5_ownCell_57 C hr hS hW (hl.keep [false, false, false, false, false] rfl) h
    · replace h := h.1 hc
      refine x_aload_n C hl dX5_ownCell_18 rfl ?_
      refine x_get C hW (t := 5) (k := 4) t1 kl_5 (by decide) fl_X5_21 (v := rv b0 (mR σ l0 4)) rfl dX5_ownCell_19 ?_
      refine x_iload_n C hl dX5_ownCell_22 rfl ?_
      have t8 := h.1
      replace h := h.2
      have v9 := h.1
      replace h := h.2
      refine x_iald C hW t8 v9 dX5_ownCell_23 ?_
      refine lv_i2l hx hb dX5_ownCell_24 rfl ?_
      exact r_l C hr hW hS h dX5_ownCell_25
  · replace h := h.2 hc
    refine lv_ldc2 (own := RX5) (v := (-9223372036854775808 : Int64)) hx hb C.2.2.2.1 (C.2.2.2.2.1 _ (gc6 60 rfl rfl)) dX5_ownCell_10 ?_
    exact r_l C hr hW hS h dX5_ownCell_13
theorem T_X5_ownCell (l : Launch) {G : Lay} {D : va_G} {tc : Nat → ClassId} {b0 : Nat} (l0 : Nat) (l1 : Int32) (l2 : Int32) (l3 : Int32) (σ : Mem) (Qx : Int64 → Mem → Prop) (h : X_X5_ownCell G Qx l0 l1 l2 l3 σ) : ML l yX5_ownCell cX5_ownCell 5 ((some FieldType.long)) rm_X5_ownCell G D tc b0 [rv b0 l0, .int l1, .int l2, .int l3] σ Qx :=
  x_entry (y := yX5_ownCell) [.inr (.inr l0), .inl l1, .inl l2, .inl l3] 1 (by decide) (Nat.le_of_ble_eq_true rfl) (fun p e s m args below meth c ls C hr hW hl => t_X5_ownCell_0 C hr va_S.rf hW (hl.keep [true, true, true, true, false] rfl) h)
/-! X6_runHooks -/
set_option maxRecDepth 20000 in
set_option maxHeartbeats 4000000 in
theorem t_X6_runHooks_33 {p : Program} {l : Launch} {e : Env} {s : State} {m : MethodId} {args : Array Value} {below : List Frame} {meth : Method} {c : Code} {H : Heap} {locs : List Loc} {D : va_G} {tc : Nat → ClassId} {b0 : Nat} {ls : Array Slot} {G : Lay} {Qx : Mem → Prop} {l0 : Nat} {l1 : Nat} {l2 : Int32} {l3 : Int32}  {K2 : Int32 × Mem → Prop} {σ : Mem} (C : Cx p s m args meth c cX6_runHooks RX6 4 D tc b0) (hr : meth.sig.returnType = (none : Option FieldType)) (hK2 : ∀ (x3 : Int32) (σ : Mem) (H : Heap) (locs : List Loc) (ls : Array Slot), va_S (AA b0) s.heap H locs → Wd G D tc b0 σ H → hL b0 ls 4 [some (.inr (.inr l0)), some (.inr (.inr l1)), some (.inl l2), some (.inl x3)] → K2 (x3, σ) → W p l e rm_X6_runHooks s m args below meth c H locs 0 0 (MQ below (va_Qv Qx (fun u t => Pw G D tc b0 u t) (AA b0)) args s 0 0 (AA b0)) (F0 m 2 ls [])) (hS : va_S (AA b0) s.heap H locs) (hW : Wd G D tc b0 σ H) (hl : hL b0 ls 4 [some (.inr (.inr l0)), some (.inr (.inr l1)), some (.inl l2), some (.inl l3)]) (h : X_X6_runHooks_33 G Qx K2 l0 l1 l2 l3  σ) : W p l e rm_X6_runHooks s m args below meth c H locs 0 0 (MQ below (va_Qv Qx (fun u t => Pw G D tc b0 u t) (AA b0)) args s 0 0 (AA b0)) (F0 m 33 ls []) := by
  have hx := C.1
  have hb := C.2.1
  unfold X_X6_runHooks_33 at h
  refine x_iinc C hl dX6_runHooks_33 rfl (v := (1 : Int32)) (by decide) (by decide) rfl (fun ls hl => ?_)
  refine lv_goto hx hb dX6_runHooks_36 (tgt := 2) rfl ?_
  exact hK2 _ _ _ _ _ hS hW (hl.keep [true, true, true, true] rfl) h
set_option maxRecDepth 20000 in
set_option maxHeartbeats 4000000 in
theorem t_X6_runHooks_2_n {p : Program} {l : Launch} {e : Env} {s : State} {m : MethodId} {args : Array Value} {below : List Frame} {meth : Method} {c : Code} {D : va_G} {tc : Nat → ClassId} {b0 : Nat} {G : Lay} {Qx : Mem → Prop} {l0 : Nat} {l1 : Nat} {l2 : Int32} (C : Cx p s m args meth c cX6_runHooks RX6 4 D tc b0) (hr : meth.sig.returnType = (none : Option FieldType)) (n : Nat) : ∀ (l3 : Int32) (σ : Mem) (H : Heap) (locs : List Loc) (ls : Array Slot), va_S (AA b0) s.heap H locs → Wd G D tc b0 σ H → hL b0 ls 4 [some (.inr (.inr l0)), some (.inr (.inr l1)), some (.inl l2), some (.inl l3)] → Lp (X_X6_runHooks_2_s G Qx l0 l1 l2) n (l3, σ) → W p l e rm_X6_runHooks s m args below meth c H locs 0 0 (MQ below (va_Qv Qx (fun u t => Pw G D tc b0 u t) (AA b0)) args s 0 0 (AA b0)) (F0 m 2 ls []) := by
  have hx := C.1
  have hb := C.2.1
  induction n with
  | zero => intro l3 σ H locs ls hS hW hl h; exact False.elim h
  | succ n hK2 =>
    intro l3 σ H locs ls hS hW hl h
    replace h : X_X6_runHooks_2_s G Qx l0 l1 l2 (Lp (X_X6_runHooks_2_s G Qx l0 l1 l2) n) (l3, σ) := h
    unfold X_X6_runHooks_2_s at h
    refine x_iload_n C hl dX6_runHooks_2 rfl ?_
    refine x_aload_n C hl dX6_runHooks_3 rfl ?_
    have t1 := h.1
    replace h := h.2
    refine x_get C hW (t := 6) (k := 0) t1 kl_6 (by decide) fl_X6_29 (v := .int (mI σ l0 0)) rfl dX6_runHooks_4 ?_
    refine lv_icmp_ge hx hb dX6_runHooks_7 (tgt := 39) rfl (fun hc => ?_) (fun hc => ?_)
    · replace h := h.1 hc
      exact r_v C hr hW hS h dX6_runHooks_39
    · replace h := h.2 hc
      refine x_aload_n C hl dX6_runHooks_10 rfl ?_
      refine x_aload_n C hl dX6_runHooks_11 rfl ?_
      have t2 := h.1
      replace h := h.2
      refine x_get C hW (t := 7) (k := 4) t2 kl_7 (by decide) fl_X6_79 (v := .int (mI σ l1 4)) rfl dX6_runHooks_12 ?_
      refine x_iload_n C hl dX6_runHooks_15 rfl ?_
      refine y_i (x_run (As := [.int (mI σ l1 4), .int l3]) C hW hS (T_X6_isOf l l0 (mI σ l1 4) l3 σ _ h) t1 kl_6 (CW.of yv_X6_isOf ml_X6_83) ⟨rfl, rfl, ⟨by decide, by decide⟩, by decide, by decide⟩ rfl hl.1 rfl (by decide) dX6_runHooks_16) hS (fun w4 s3 H locs h hW hS => ?_)
      refine lv_if_eq hx hb dX6_runHooks_19 (tgt := 33) rfl (fun hc => ?_) (fun hc => ?_)
      · replace h := h.1 hc
        exact t_X6_runHooks_33 C hr hK2 hS hW (hl.keep [true, true, true, true] rfl) h
      · replace h := h.2 hc
        refine x_aload_n C hl dX6_runHooks_22 rfl ?_
        refine x_get C hW (t := 6) (k := 1) t1 kl_6 (by decide) fl_X6_11 (v := rv b0 (mR s3 l0 1)) rfl dX6_runHooks_23 ?_
        refine x_iload_n C hl dX6_runHooks_26 rfl ?_
        have t5 := h.1
        replace h := h.2
        have v6 := h.1
        replace h := h.2
        refine x_aald C hW (t := 103) (t0 := 4) t5 (by decide) rfl v6 dX6_runHooks_27 ?_
        refine x_aload_n C hl dX6_runHooks_28 rfl ?_
        refine x_iload_n C hl dX6_runHooks_29 rfl ?_
        have t7 := h.1
        replace h := h.2
        refine y_v (x_run (As := [rv b0 l1, .int l2]) C hW hS (T_X1_runHooks l (mR s3 (mR s3 l0 1) l3.toNatClampNeg) l1 l2 s3 _ h) t7 kl_1 (CW.of yv_X1_runHooks ml_X6_87) ⟨rfl, rfl, ⟨by decide, by decide⟩, by decide, by decide⟩ rfl hl.1 rfl (by decide) dX6_runHooks_30) hS (fun s8 H locs h hW hS => ?_)
        exact t_X6_runHooks_33 C hr hK2 hS hW (hl.keep [true, true, true, true] rfl) h
set_option maxRecDepth 20000 in
set_option maxHeartbeats 4000000 in
theorem t_X6_runHooks_2 {p : Program} {l : Launch} {e : Env} {s : State} {m : MethodId} {args : Array Value} {below : List Frame} {meth : Method} {c : Code} {H : Heap} {locs : List Loc} {D : va_G} {tc : Nat → ClassId} {b0 : Nat} {ls : Array Slot} {G : Lay} {Qx : Mem → Prop} {l0 : Nat} {l1 : Nat} {l2 : Int32} {l3 : Int32}  {σ : Mem} (C : Cx p s m args meth c cX6_runHooks RX6 4 D tc b0) (hr : meth.sig.returnType = (none : Option FieldType)) (hS : va_S (AA b0) s.heap H locs) (hW : Wd G D tc b0 σ H) (hl : hL b0 ls 4 [some (.inr (.inr l0)), some (.inr (.inr l1)), some (.inl l2), some (.inl l3)]) (h : X_X6_runHooks_2 G Qx l0 l1 l2 l3 σ) : W p l e rm_X6_runHooks s m args below meth c H locs 0 0 (MQ below (va_Qv Qx (fun u t => Pw G D tc b0 u t) (AA b0)) args s 0 0 (AA b0)) (F0 m 2 ls []) := by
  obtain ⟨n, h⟩ := h
  exact t_X6_runHooks_2_n C hr n l3 σ H locs ls hS hW hl h
set_option maxRecDepth 20000 in
set_option maxHeartbeats 4000000 in
theorem t_X6_runHooks_0 {p : Program} {l : Launch} {e : Env} {s : State} {m : MethodId} {args : Array Value} {below : List Frame} {meth : Method} {c : Code} {H : Heap} {locs : List Loc} {D : va_G} {tc : Nat → ClassId} {b0 : Nat} {ls : Array Slot} {G : Lay} {Qx : Mem → Prop} {l0 : Nat} {l1 : Nat} {l2 : Int32}  {σ : Mem} (C : Cx p s m args meth c cX6_runHooks RX6 4 D tc b0) (hr : meth.sig.returnType = (none : Option FieldType)) (hS : va_S (AA b0) s.heap H locs) (hW : Wd G D tc b0 σ H) (hl : hL b0 ls 4 [some (.inr (.inr l0)), some (.inr (.inr l1)), some (.inl l2), none]) (h : X_X6_runHooks_0 G Qx l0 l1 l2  σ) : W p l e rm_X6_runHooks s m args below meth c H locs 0 0 (MQ below (va_Qv Qx (fun u t => Pw G D tc b0 u t) (AA b0)) args s 0 0 (AA b0)) (F0 m 0 ls []) := by
  have hx := C.1
  have hb := C.2.1
  unfold X_X6_runHooks_0 at h
  refine lv_iconst (v := (0 : Int32)) hx hb dX6_runHooks_0 (by decide) ?_
  refine x_istore_n C hl dX6_runHooks_1 (by decide) rfl (fun ls hl => ?_)
  exact t_X6_runHooks_2 C hr hS hW (hl.keep [true, true, true, true] rfl) h
theorem T_X6_runHooks (l : Launch) {G : Lay} {D : va_G} {tc : Nat → ClassId} {b0 : Nat} (l0 : Nat) (l1 : Nat) (l2 : Int32) (σ : Mem) (Qx : Mem → Prop) (h : X_X6_runHooks G Qx l0 l1 l2 σ) : MV l yX6_runHooks cX6_runHooks 4 ((none : Option FieldType)) rm_X6_runHooks G D tc b0 [rv b0 l0, rv b0 l1, .int l2] σ Qx :=
  x_entry (y := yX6_runHooks) [.inr (.inr l0), .inr (.inr l1), .inl l2] 1 (by decide) (Nat.le_of_ble_eq_true rfl) (fun p e s m args below meth c ls C hr hW hl => t_X6_runHooks_0 C hr va_S.rf hW (hl.keep [true, true, true, false] rfl) h)
/-! X7_begin -/
set_option maxRecDepth 20000 in
set_option maxHeartbeats 4000000 in
theorem t_X7_begin_33_n {p : Program} {l : Launch} {e : Env} {s : State} {m : MethodId} {args : Array Value} {below : List Frame} {meth : Method} {c : Code} {D : va_G} {tc : Nat → ClassId} {b0 : Nat} {G : Lay} {Qx : Mem → Prop} {l0 : Nat} (C : Cx p s m args meth c cX7_begin RX7 5 D tc b0) (hr : meth.sig.returnType = (none : Option FieldType)) (n : Nat) : ∀ (l4 : Int32) (σ : Mem) (H : Heap) (locs : List Loc) (ls : Array Slot), va_S (AA b0) s.heap H locs → Wd G D tc b0 σ H → hL b0 ls 5 [some (.inr (.inr l0)), none, none, none, some (.inl l4)] → Lp (X_X7_begin_33_s G Qx l0) n (l4, σ) → W p l e rm_X7_begin s m args below meth c H locs 0 0 (MQ below (va_Qv Qx (fun u t => Pw G D tc b0 u t) (AA b0)) args s 0 0 (AA b0)) (F0 m 33 ls []) := by
  have hx := C.1
  have hb := C.2.1
  induction n with
  | zero => intro l4 σ H locs ls hS hW hl h; exact False.elim h
  | succ n hK33 =>
    intro l4 σ H locs ls hS hW hl h
    replace h : X_X7_begin_33_s G Qx l0 (Lp (X_X7_begin_33_s G Qx l0) n) (l4, σ) := h
    unfold X_X7_begin_33_s at h
    refine x_iload C hl dX7_begin_33 rfl ?_
    refine lv_bipush (v := (16 : Int32)) hx hb dX7_begin_35 (by decide) ?_
    refine lv_icmp_ge hx hb dX7_begin_37 (tgt := 62) rfl (fun hc => ?_) (fun hc => ?_)
    · replace h := h.1 hc
      exact r_v C hr hW hS h dX7_begin_62
    · replace h := h.2 hc
      refine x_aload_n C hl dX7_begin_40 rfl ?_
      have t1 := h.1
      replace h := h.2
      refine x_get C hW (t := 7) (k := 6) t1 kl_7 (by decide) fl_X7_9 (v := rv b0 (mR σ l0 6)) rfl dX7_begin_41 ?_
      refine x_iload C hl dX7_begin_44 rfl ?_
      refine lv_iconst (v := (0 : Int32)) hx hb dX7_begin_46 (by decide) ?_
      have t2 := h.1
      replace h := h.2
      have v3 := h.1
      replace h := h.2
      refine x_iast C hW hS t2 v3 dX7_begin_47 (fun H locs hW hS => ?_)
      obtain ⟨s4, e_s4⟩ : ∃ z : Mem, z = (sI σ (mR σ l0 6) l4.toNatClampNeg (0 : Int32)) := ⟨_, rfl⟩
      replace h := h s4 e_s4
      replace hW : Wd G D tc b0 s4 H := by rw [e_s4]; exact hW
      refine x_aload_n C hl dX7_begin_48 rfl ?_
      refine x_get C hW (t := 7) (k := 7) t1 kl_7 (by decide) fl_X7_15 (v := rv b0 (mR s4 l0 7)) rfl dX7_begin_49 ?_
      refine x_iload C hl dX7_begin_52 rfl ?_
      refine lv_iconst (v := (0 : Int32)) hx hb dX7_begin_54 (by decide) ?_
      have t5 := h.1
      replace h := h.2
      have v6 := h.1
      replace h := h.2
      refine x_iast C hW hS t5 v6 dX7_begin_55 (fun H locs hW hS => ?_)
      obtain ⟨s7, e_s7⟩ : ∃ z : Mem, z = (sI s4 (mR s4 l0 7) l4.toNatClampNeg (0 : Int32)) := ⟨_, rfl⟩
      replace h := h s7 e_s7
      replace hW : Wd G D tc b0 s7 H := by rw [e_s7]; exact hW
      refine x_iinc C hl dX7_begin_56 rfl (v := (1 : Int32)) (by decide) (by decide) rfl (fun ls hl => ?_)
      refine lv_goto hx hb dX7_begin_59 (tgt := 33) rfl ?_
      exact hK33 _ _ _ _ _ hS hW (hl.keep [true, false, false, false, true] rfl) h
set_option maxRecDepth 20000 in
set_option maxHeartbeats 4000000 in
theorem t_X7_begin_33 {p : Program} {l : Launch} {e : Env} {s : State} {m : MethodId} {args : Array Value} {below : List Frame} {meth : Method} {c : Code} {H : Heap} {locs : List Loc} {D : va_G} {tc : Nat → ClassId} {b0 : Nat} {ls : Array Slot} {G : Lay} {Qx : Mem → Prop} {l0 : Nat} {l4 : Int32}  {σ : Mem} (C : Cx p s m args meth c cX7_begin RX7 5 D tc b0) (hr : meth.sig.returnType = (none : Option FieldType)) (hS : va_S (AA b0) s.heap H locs) (hW : Wd G D tc b0 σ H) (hl : hL b0 ls 5 [some (.inr (.inr l0)), none, none, none, some (.inl l4)]) (h : X_X7_begin_33 G Qx l0 l4 σ) : W p l e rm_X7_begin s m args below meth c H locs 0 0 (MQ below (va_Qv Qx (fun u t => Pw G D tc b0 u t) (AA b0)) args s 0 0 (AA b0)) (F0 m 33 ls []) := by
  obtain ⟨n, h⟩ := h
  exact t_X7_begin_33_n C hr n l4 σ H locs ls hS hW hl h
set_option maxRecDepth 20000 in
set_option maxHeartbeats 4000000 in
theorem t_X7_begin_0 {p : Program} {l : Launch} {e : Env} {s : State} {m : MethodId} {args : Array Value} {below : List Frame} {meth : Method} {c : Code} {H : Heap} {locs : List Loc} {D : va_G} {tc : Nat → ClassId} {b0 : Nat} {ls : Array Slot} {G : Lay} {Qx : Mem → Prop} {l0 : Nat} {l1 : Int32} {l2 : Int32} {l3 : Int32}  {σ : Mem} (C : Cx p s m args meth c cX7_begin RX7 5 D tc b0) (hr : meth.sig.returnType = (none : Option FieldType)) (hS : va_S (AA b0) s.heap H locs) (hW : Wd G D tc b0 σ H) (hl : hL b0 ls 5 [some (.inr (.inr l0)), some (.inl l1), some (.inl l2), some (.inl l3), none]) (h : X_X7_begin_0 G Qx l0 l1 l2 l3  σ) : W p l e rm_X7_begin s m args below meth c H locs 0 0 (MQ below (va_Qv Qx (fun u t => Pw G D tc b0 u t) (AA b0)) args s 0 0 (AA b0)) (F0 m 0 ls []) := by
  have hx := C.1
  have hb := C.2.1
  unfold X_X7_begin_0 at h
  refine x_aload_n C hl dX7_begin_0 rfl ?_
  refine x_iload_n C hl dX7_begin_1 rfl ?_
  have t1 := h.1
  replace h := h.2
  refine x_putI C hW hS (t := 7) (k := 1) t1 kl_7 (by decide) fl_X7_22 rfl rfl rfl rfl dX7_begin_2 (fun H locs hW hS => ?_)
  obtain ⟨s2, e_s2⟩ : ∃ z : Mem, z = (sI σ l0 1 l1) := ⟨_, rfl⟩
  replace h := h s2 e_s2
  replace hW : Wd G D tc b0 s2 H := by rw [e_s2]; exact hW
  refine x_aload_n C hl dX7_begin_5 rfl ?_
  refine x_iload_n C hl dX7_begin_6 rfl ?_
  refine x_putI C hW hS (t := 7) (k := 2) t1 kl_7 (by decide) fl_X7_25 rfl rfl rfl rfl dX7_begin_7 (fun H locs hW hS => ?_)
  obtain ⟨s3, e_s3⟩ : ∃ z : Mem, z = (sI s2 l0 2 l2) := ⟨_, rfl⟩
  replace h := h s3 e_s3
  replace hW : Wd G D tc b0 s3 H := by rw [e_s3]; exact hW
  refine x_aload_n C hl dX7_begin_10 rfl ?_
  refine x_iload_n C hl dX7_begin_11 rfl ?_
  refine x_putI C hW hS (t := 7) (k := 3) t1 kl_7 (by decide) fl_X7_28 rfl rfl rfl rfl dX7_begin_12 (fun H locs hW hS => ?_)
  obtain ⟨s4, e_s4⟩ : ∃ z : Mem, z = (sI s3 l0 3 l3) := ⟨_, rfl⟩
  replace h := h s4 e_s4
  replace hW : Wd G D tc b0 s4 H := by rw [e_s4]; exact hW
  refine x_aload_n C hl dX7_begin_15 rfl ?_
  refine lv_iconst (v := (-1 : Int32)) hx hb dX7_begin_16 (by decide) ?_
  refine x_putI C hW hS (t := 7) (k := 4) t1 kl_7 (by decide) fl_X7_31 rfl rfl rfl rfl dX7_begin_17 (fun H locs hW hS => ?_)
  obtain ⟨s5, e_s5⟩ : ∃ z : Mem, z = (sI s4 l0 4 (-1 : Int32)) := ⟨_, rfl⟩
  replace h := h s5 e_s5
  replace hW : Wd G D tc b0 s5 H := by rw [e_s5]; exact hW
  refine x_aload_n C hl dX7_begin_20 rfl ?_
  refine lv_iconst (v := (0 : Int32)) hx hb dX7_begin_21 (by decide) ?_
  refine x_putI C hW hS (t := 7) (k := 5) t1 kl_7 (by decide) fl_X7_34 rfl rfl rfl rfl dX7_begin_22 (fun H locs hW hS => ?_)
  obtain ⟨s6, e_s6⟩ : ∃ z : Mem, z = (sI s5 l0 5 (0 : Int32)) := ⟨_, rfl⟩
  replace h := h s6 e_s6
  replace hW : Wd G D tc b0 s6 H := by rw [e_s6]; exact hW
  refine x_aload_n C hl dX7_begin_25 rfl ?_
  refine lv_iconst (v := (0 : Int32)) hx hb dX7_begin_26 (by decide) ?_
  have b8 := h.1
  replace h := h.2
  refine x_putI C hW hS (t := 7) (k := 8) t1 kl_7 (by decide) fl_X7_37 rfl rfl (bz_n b8) (bz_f b8) dX7_begin_27 (fun H locs hW hS => ?_)
  obtain ⟨s7, e_s7⟩ : ∃ z : Mem, z = (sI s6 l0 8 (0 : Int32)) := ⟨_, rfl⟩
  replace h := h s7 e_s7
  replace hW : Wd G D tc b0 s7 H := by rw [e_s7]; exact hW
  refine lv_iconst (v := (0 : Int32)) hx hb dX7_begin_30 (by decide) ?_
  refine x_istore C hl dX7_begin_31 (by decide) rfl (fun ls hl => ?_)
  exact t_X7_begin_33 C hr hS hW (hl.keep [true, false, false, false, true] rfl) h
theorem T_X7_begin (l : Launch) {G : Lay} {D : va_G} {tc : Nat → ClassId} {b0 : Nat} (l0 : Nat) (l1 : Int32) (l2 : Int32) (l3 : Int32) (σ : Mem) (Qx : Mem → Prop) (h : X_X7_begin G Qx l0 l1 l2 l3 σ) : MV l yX7_begin cX7_begin 5 ((none : Option FieldType)) rm_X7_begin G D tc b0 [rv b0 l0, .int l1, .int l2, .int l3] σ Qx :=
  x_entry (y := yX7_begin) [.inr (.inr l0), .inl l1, .inl l2, .inl l3] 1 (by decide) (Nat.le_of_ble_eq_true rfl) (fun p e s m args below meth c ls C hr hW hl => t_X7_begin_0 C hr va_S.rf hW (hl.keep [true, true, true, true, false] rfl) h)
/-! X7_isLive -/
set_option maxRecDepth 20000 in
set_option maxHeartbeats 4000000 in
theorem t_X7_isLive_21 {p : Program} {l : Launch} {e : Env} {s : State} {m : MethodId} {args : Array Value} {below : List Frame} {meth : Method} {c : Code} {H : Heap} {locs : List Loc} {D : va_G} {tc : Nat → ClassId} {b0 : Nat} {ls : Array Slot} {G : Lay} {Qx : Int32 → Mem → Prop}  {k0 : Int32} {σ : Mem} (C : Cx p s m args meth c cX7_isLive RX7 1 D tc b0) (hr : meth.sig.returnType = (some FieldType.boolean)) (hS : va_S (AA b0) s.heap H locs) (hW : Wd G D tc b0 σ H) (hl : hL b0 ls 1 [none]) (h : X_X7_isLive_21 G Qx  k0 σ) : W p l e rm_X7_isLive s m args below meth c H locs 0 0 (MQ below (va_Qi Qx (fun u t => Pw G D tc b0 u t) (AA b0)) args s 0 0 (AA b0)) (F0 m 21 ls [.int k0]) := by
  have hx := C.1
  have hb := C.2.1
  unfold X_X7_isLive_21 at h
  exact r_z C hr hW hS h.1 h.2 dX7_isLive_21
set_option maxRecDepth 20000 in
set_option maxHeartbeats 4000000 in
theorem t_X7_isLive_16 {p : Program} {l : Launch} {e : Env} {s : State} {m : MethodId} {args : Array Value} {below : List Frame} {meth : Method} {c : Code} {H : Heap} {locs : List Loc} {D : va_G} {tc : Nat → ClassId} {b0 : Nat} {ls : Array Slot} {G : Lay} {Qx : Int32 → Mem → Prop}   {σ : Mem} (C : Cx p s m args meth c cX7_isLive RX7 1 D tc b0) (hr : meth.sig.returnType = (some FieldType.boolean)) (hS : va_S (AA b0) s.heap H locs) (hW : Wd G D tc b0 σ H) (hl : hL b0 ls 1 [none]) (h : X_X7_isLive_16 G Qx   σ) : W p l e rm_X7_isLive s m args below meth c H locs 0 0 (MQ below (va_Qi Qx (fun u t => Pw G D tc b0 u t) (AA b0)) args s 0 0 (AA b0)) (F0 m 16 ls []) := by
  have hx := C.1
  have hb := C.2.1
  unfold X_X7_isLive_16 at h
  refine lv_iconst (v := (1 : Int32)) hx hb dX7_isLive_16 (by decide) ?_
  refine lv_goto hx hb dX7_isLive_17 (tgt := 21) rfl ?_
  exact t_X7_isLive_21 C hr hS hW (hl.keep [false] rfl) h
set_option maxRecDepth 20000 in
set_option maxHeartbeats 4000000 in
theorem t_X7_isLive_0 {p : Program} {l : Launch} {e : Env} {s : State} {m : MethodId} {args : Array Value} {below : List Frame} {meth : Method} {c : Code} {H : Heap} {locs : List Loc} {D : va_G} {tc : Nat → ClassId} {b0 : Nat} {ls : Array Slot} {G : Lay} {Qx : Int32 → Mem → Prop} {l0 : Nat}  {σ : Mem} (C : Cx p s m args meth c cX7_isLive RX7 1 D tc b0) (hr : meth.sig.returnType = (some FieldType.boolean)) (hS : va_S (AA b0) s.heap H locs) (hW : Wd G D tc b0 σ H) (hl : hL b0 ls 1 [some (.inr (.inr l0))]) (h : X_X7_isLive_0 G Qx l0  σ) : W p l e rm_X7_isLive s m args below meth c H locs 0 0 (MQ below (va_Qi Qx (fun u t => Pw G D tc b0 u t) (AA b0)) args s 0 0 (AA b0)) (F0 m 0 ls []) := by
  have hx := C.1
  have hb := C.2.1
  unfold X_X7_isLive_0 at h
  refine x_aload_n C hl dX7_isLive_0 rfl ?_
  have t1 := h.1
  replace h := h.2
  refine x_get C hW (t := 7) (k := 1) t1 kl_7 (by decide) fl_X7_22 (v := .int (mI σ l0 1)) rfl dX7_isLive_1 ?_
  refine lv_iconst (v := (2 : Int32)) hx hb dX7_isLive_4 (by decide) ?_
  refine lv_icmp_eq hx hb dX7_isLive_5 (tgt := 16) rfl (fun hc => ?_) (fun hc => ?_)
  · replace h := h.1 hc
    exact t_X7_isLive_16 C hr hS hW (hl.keep [false] rfl) h
  · replace h := h.2 hc
    refine x_aload_n C hl dX7_isLive_8 rfl ?_
    refine x_get C hW (t := 7) (k := 1) t1 kl_7 (by decide) fl_X7_22 (v := .int (mI σ l0 1)) rfl dX7_isLive_9 ?_
    refine lv_iconst (v := (1 : Int32)) hx hb dX7_isLive_12 (by decide) ?_
    refine lv_icmp_ne hx hb dX7_isLive_13 (tgt := 20) rfl (fun hc => ?_) (fun hc => ?_)
    · replace h := h.2 hc
      refine lv_iconst (v := (0 : Int32)) hx hb dX7_isLive_20 (by decide) ?_
      exact t_X7_isLive_21 C hr hS hW (hl.keep [false] rfl) h
    · replace h := h.1 hc
      exact t_X7_isLive_16 C hr hS hW (hl.keep [false] rfl) h
theorem T_X7_isLive (l : Launch) {G : Lay} {D : va_G} {tc : Nat → ClassId} {b0 : Nat} (l0 : Nat) (σ : Mem) (Qx : Int32 → Mem → Prop) (h : X_X7_isLive G Qx l0 σ) : MI l yX7_isLive cX7_isLive 1 ((some FieldType.boolean)) rm_X7_isLive G D tc b0 [rv b0 l0] σ Qx :=
  x_entry (y := yX7_isLive) [.inr (.inr l0)] 0 (by decide) (Nat.le_of_ble_eq_true rfl) (fun p e s m args below meth c ls C hr hW hl => t_X7_isLive_0 C hr va_S.rf hW (hl.keep [true] rfl) h)
/-! X7_keepCopy -/
set_option maxRecDepth 20000 in
set_option maxHeartbeats 4000000 in
theorem t_X7_keepCopy_0 {p : Program} {l : Launch} {e : Env} {s : State} {m : MethodId} {args : Array Value} {below : List Frame} {meth : Method} {c : Code} {H : Heap} {locs : List Loc} {D : va_G} {tc : Nat → ClassId} {b0 : Nat} {ls : Array Slot} {G : Lay} {Qx : Mem → Prop} {l0 : Nat} {l1 : Int32}  {σ : Mem} (C : Cx p s m args meth c cX7_keepCopy RX7 2 D tc b0) (hr : meth.sig.returnType = (none : Option FieldType)) (hS : va_S (AA b0) s.heap H locs) (hW : Wd G D tc b0 σ H) (hl : hL b0 ls 2 [some (.inr (.inr l0)), some (.inl l1)]) (h : X_X7_keepCopy_0 G Qx l0 l1  σ) : W p l e rm_X7_keepCopy s m args below meth c H locs 0 0 (MQ below (va_Qv Qx (fun u t => Pw G D tc b0 u t) (AA b0)) args s 0 0 (AA b0)) (F0 m 0 ls []) := by
  have hx := C.1
  have hb := C.2.1
  unfold X_X7_keepCopy_0 at h
  refine x_aload_n C hl dX7_keepCopy_0 rfl ?_
  refine lv_iconst (v := (1 : Int32)) hx hb dX7_keepCopy_1 (by decide) ?_
  have t1 := h.1
  replace h := h.2
  refine x_putI C hW hS (t := 7) (k := 1) t1 kl_7 (by decide) fl_X7_22 rfl rfl rfl rfl dX7_keepCopy_2 (fun H locs hW hS => ?_)
  obtain ⟨s2, e_s2⟩ : ∃ z : Mem, z = (sI σ l0 1 (1 : Int32)) := ⟨_, rfl⟩
  replace h := h s2 e_s2
  replace hW : Wd G D tc b0 s2 H := by rw [e_s2]; exact hW
  refine x_aload_n C hl dX7_keepCopy_5 rfl ?_
  refine x_iload_n C hl dX7_keepCopy_6 rfl ?_
  refine x_putI C hW hS (t := 7) (k := 5) t1 kl_7 (by decide) fl_X7_34 rfl rfl rfl rfl dX7_keepCopy_7 (fun H locs hW hS => ?_)
  obtain ⟨s3, e_s3⟩ : ∃ z : Mem, z = (sI s2 l0 5 l1) := ⟨_, rfl⟩
  replace h := h s3 e_s3
  replace hW : Wd G D tc b0 s3 H := by rw [e_s3]; exact hW
  refine x_aload_n C hl dX7_keepCopy_10 rfl ?_
  refine x_get C hW (t := 7) (k := 6) t1 kl_7 (by decide) fl_X7_9 (v := rv b0 (mR s3 l0 6)) rfl dX7_keepCopy_11 ?_
  refine lv_iconst (v := (0 : Int32)) hx hb dX7_keepCopy_14 (by decide) ?_
  refine x_aload_n C hl dX7_keepCopy_15 rfl ?_
  refine x_get C hW (t := 7) (k := 7) t1 kl_7 (by decide) fl_X7_15 (v := rv b0 (mR s3 l0 7)) rfl dX7_keepCopy_16 ?_
  refine lv_iconst (v := (0 : Int32)) hx hb dX7_keepCopy_19 (by decide) ?_
  refine lv_bipush (v := (16 : Int32)) hx hb dX7_keepCopy_20 (by decide) ?_
  have t4 := h.1
  replace h := h.2
  have t5 := h.1
  replace h := h.2
  have c6 := h.1
  replace h := h.2
  refine x_copy (index := 41) C hW hS hl.1 (gc5 129 rfl rfl) t4 t5 c6 (by decide) (by decide) dX7_keepCopy_22 (fun H locs hW hS => ?_)
  obtain ⟨s7, e_s7⟩ : ∃ z : Mem, z = (sC s3 (mR s3 l0 6) (0 : Int32).toNatClampNeg (mR s3 l0 7) (0 : Int32).toNatClampNeg (16 : Int32).toNatClampNeg) := ⟨_, rfl⟩
  replace h := h s7 e_s7
  replace hW : Wd G D tc b0 s7 H := by rw [e_s7]; exact hW
  exact r_v C hr hW hS h dX7_keepCopy_25
theorem T_X7_keepCopy (l : Launch) {G : Lay} {D : va_G} {tc : Nat → ClassId} {b0 : Nat} (l0 : Nat) (l1 : Int32) (σ : Mem) (Qx : Mem → Prop) (h : X_X7_keepCopy G Qx l0 l1 σ) : MV l yX7_keepCopy cX7_keepCopy 2 ((none : Option FieldType)) rm_X7_keepCopy G D tc b0 [rv b0 l0, .int l1] σ Qx :=
  x_entry (y := yX7_keepCopy) [.inr (.inr l0), .inl l1] 0 (by decide) (Nat.le_of_ble_eq_true rfl) (fun p e s m args below meth c ls C hr hW hl => t_X7_keepCopy_0 C hr va_S.rf hW (hl.keep [true, true] rfl) h)
/-! X7_changes -/
set_option maxRecDepth 20000 in
set_option maxHeartbeats 4000000 in
theorem t_X7_changes_31 {p : Program} {l : Launch} {e : Env} {s : State} {m : MethodId} {args : Array Value} {below : List Frame} {meth : Method} {c : Code} {H : Heap} {locs : List Loc} {D : va_G} {tc : Nat → ClassId} {b0 : Nat} {ls : Array Slot} {G : Lay} {Qx : Int32 → Mem → Prop} {l0 : Nat} {l1 : Int32} {l2 : Int32}  {K4 : Int32 × Int32 × Mem → Prop} {σ : Mem} (C : Cx p s m args meth c cX7_changes RX7 3 D tc b0) (hr : meth.sig.returnType = (some FieldType.int)) (hK4 : ∀ (x1 : Int32) (x2 : Int32) (σ : Mem) (H : Heap) (locs : List Loc) (ls : Array Slot), va_S (AA b0) s.heap H locs → Wd G D tc b0 σ H → hL b0 ls 3 [some (.inr (.inr l0)), some (.inl x1), some (.inl x2)] → K4 (x1, x2, σ) → W p l e rm_X7_changes s m args below meth c H locs 0 0 (MQ below (va_Qi Qx (fun u t => Pw G D tc b0 u t) (AA b0)) args s 0 0 (AA b0)) (F0 m 4 ls [])) (hS : va_S (AA b0) s.heap H locs) (hW : Wd G D tc b0 σ H) (hl : hL b0 ls 3 [some (.inr (.inr l0)), some (.inl l1), some (.inl l2)]) (h : X_X7_changes_31 G Qx K4 l0 l1 l2  σ) : W p l e rm_X7_changes s m args below meth c H locs 0 0 (MQ below (va_Qi Qx (fun u t => Pw G D tc b0 u t) (AA b0)) args s 0 0 (AA b0)) (F0 m 31 ls []) := by
  have hx := C.1
  have hb := C.2.1
  unfold X_X7_changes_31 at h
  refine x_iinc C hl dX7_changes_31 rfl (v := (1 : Int32)) (by decide) (by decide) rfl (fun ls hl => ?_)
  refine lv_goto hx hb dX7_changes_34 (tgt := 4) rfl ?_
  exact hK4 _ _ _ _ _ _ hS hW (hl.keep [true, true, true] rfl) h
set_option maxRecDepth 20000 in
set_option maxHeartbeats 4000000 in
theorem t_X7_changes_4_n {p : Program} {l : Launch} {e : Env} {s : State} {m : MethodId} {args : Array Value} {below : List Frame} {meth : Method} {c : Code} {D : va_G} {tc : Nat → ClassId} {b0 : Nat} {G : Lay} {Qx : Int32 → Mem → Prop} {l0 : Nat} (C : Cx p s m args meth c cX7_changes RX7 3 D tc b0) (hr : meth.sig.returnType = (some FieldType.int)) (n : Nat) : ∀ (l1 : Int32) (l2 : Int32) (σ : Mem) (H : Heap) (locs : List Loc) (ls : Array Slot), va_S (AA b0) s.heap H locs → Wd G D tc b0 σ H → hL b0 ls 3 [some (.inr (.inr l0)), some (.inl l1), some (.inl l2)] → Lp (X_X7_changes_4_s G Qx l0) n (l1, l2, σ) → W p l e rm_X7_changes s m args below meth c H locs 0 0 (MQ below (va_Qi Qx (fun u t => Pw G D tc b0 u t) (AA b0)) args s 0 0 (AA b0)) (F0 m 4 ls []) := by
  have hx := C.1
  have hb := C.2.1
  induction n with
  | zero => intro l1 l2 σ H locs ls hS hW hl h; exact False.elim h
  | succ n hK4 =>
    intro l1 l2 σ H locs ls hS hW hl h
    replace h : X_X7_changes_4_s G Qx l0 (Lp (X_X7_changes_4_s G Qx l0) n) (l1, l2, σ) := h
    unfold X_X7_changes_4_s at h
    refine x_iload_n C hl dX7_changes_4 rfl ?_
    refine lv_bipush (v := (16 : Int32)) hx hb dX7_changes_5 (by decide) ?_
    refine lv_icmp_ge hx hb dX7_changes_7 (tgt := 37) rfl (fun hc => ?_) (fun hc => ?_)
    · replace h := h.1 hc
      refine x_iload_n C hl dX7_changes_37 rfl ?_
      exact r_i C hr hW hS h dX7_changes_38
    · replace h := h.2 hc
      refine x_aload_n C hl dX7_changes_10 rfl ?_
      have t1 := h.1
      replace h := h.2
      refine x_get C hW (t := 7) (k := 6) t1 kl_7 (by decide) fl_X7_9 (v := rv b0 (mR σ l0 6)) rfl dX7_changes_11 ?_
      refine x_iload_n C hl dX7_changes_14 rfl ?_
      have t2 := h.1
      replace h := h.2
      have v3 := h.1
      replace h := h.2
      refine x_iald C hW t2 v3 dX7_changes_15 ?_
      refine x_aload_n C hl dX7_changes_16 rfl ?_
      refine x_get C hW (t := 7) (k := 7) t1 kl_7 (by decide) fl_X7_15 (v := rv b0 (mR σ l0 7)) rfl dX7_changes_17 ?_
      refine x_iload_n C hl dX7_changes_20 rfl ?_
      have t4 := h.1
      replace h := h.2
      have v5 := h.1
      replace h := h.2
      refine x_iald C hW t4 v5 dX7_changes_21 ?_
      refine lv_icmp_eq hx hb dX7_changes_22 (tgt := 31) rfl (fun hc => ?_) (fun hc => ?_)
      · replace h := h.1 hc
        exact t_X7_changes_31 C hr hK4 hS hW (hl.keep [true, true, true] rfl) h
      · replace h := h.2 hc
        refine x_iload_n C hl dX7_changes_25 rfl ?_
        refine lv_iconst (v := (1 : Int32)) hx hb dX7_changes_26 (by decide) ?_
        refine x_iload_n C hl dX7_changes_27 rfl ?_
        refine lv_ishl hx hb dX7_changes_28 ?_
        refine lv_ior hx hb dX7_changes_29 ?_
        refine x_istore_n C hl dX7_changes_30 (by decide) rfl (fun ls hl => ?_)
        exact t_X7_changes_31 C hr hK4 hS hW (hl.keep [true, true, true] rfl) h
set_option maxRecDepth 20000 in
set_option maxHeartbeats 4000000 in
theorem t_X7_changes_4 {p : Program} {l : Launch} {e : Env} {s : State} {m : MethodId} {args : Array Value} {below : List Frame} {meth : Method} {c : Code} {H : Heap} {locs : List Loc} {D : va_G} {tc : Nat → ClassId} {b0 : Nat} {ls : Array Slot} {G : Lay} {Qx : Int32 → Mem → Prop} {l0 : Nat} {l1 : Int32} {l2 : Int32}  {σ : Mem} (C : Cx p s m args meth c cX7_changes RX7 3 D tc b0) (hr : meth.sig.returnType = (some FieldType.int)) (hS : va_S (AA b0) s.heap H locs) (hW : Wd G D tc b0 σ H) (hl : hL b0 ls 3 [some (.inr (.inr l0)), some (.inl l1), some (.inl l2)]) (h : X_X7_changes_4 G Qx l0 l1 l2 σ) : W p l e rm_X7_changes s m args below meth c H locs 0 0 (MQ below (va_Qi Qx (fun u t => Pw G D tc b0 u t) (AA b0)) args s 0 0 (AA b0)) (F0 m 4 ls []) := by
  obtain ⟨n, h⟩ := h
  exact t_X7_changes_4_n C hr n l1 l2 σ H locs ls hS hW hl h
set_option maxRecDepth 20000 in
set_option maxHeartbeats 4000000 in
theorem t_X7_changes_0 {p : Program} {l : Launch} {e : Env} {s : State} {m : MethodId} {args : Array Value} {below : List Frame} {meth : Method} {c : Code} {H : Heap} {locs : List Loc} {D : va_G} {tc : Nat → ClassId} {b0 : Nat} {ls : Array Slot} {G : Lay} {Qx : Int32 → Mem → Prop} {l0 : Nat}  {σ : Mem} (C : Cx p s m args meth c cX7_changes RX7 3 D tc b0) (hr : meth.sig.returnType = (some FieldType.int)) (hS : va_S (AA b0) s.heap H locs) (hW : Wd G D tc b0 σ H) (hl : hL b0 ls 3 [some (.inr (.inr l0)), none, none]) (h : X_X7_changes_0 G Qx l0  σ) : W p l e rm_X7_changes s m args below meth c H locs 0 0 (MQ below (va_Qi Qx (fun u t => Pw G D tc b0 u t) (AA b0)) args s 0 0 (AA b0)) (F0 m 0 ls []) := by
  have hx := C.1
  have hb := C.2.1
  unfold X_X7_changes_0 at h
  refine lv_iconst (v := (0 : Int32)) hx hb dX7_changes_0 (by decide) ?_
  refine x_istore_n C hl dX7_changes_1 (by decide) rfl (fun ls hl => ?_)
  refine lv_iconst (v := (0 : Int32)) hx hb dX7_changes_2 (by decide) ?_
  refine x_istore_n C hl dX7_changes_3 (by decide) rfl (fun ls hl => ?_)
  exact t_X7_changes_4 C hr hS hW (hl.keep [true, true, true] rfl) h
theorem T_X7_changes (l : Launch) {G : Lay} {D : va_G} {tc : Nat → ClassId} {b0 : Nat} (l0 : Nat) (σ : Mem) (Qx : Int32 → Mem → Prop) (h : X_X7_changes G Qx l0 σ) : MI l yX7_changes cX7_changes 3 ((some FieldType.int)) rm_X7_changes G D tc b0 [rv b0 l0] σ Qx :=
  x_entry (y := yX7_changes) [.inr (.inr l0)] 2 (by decide) (Nat.le_of_ble_eq_true rfl) (fun p e s m args below meth c ls C hr hW hl => t_X7_changes_0 C hr va_S.rf hW (hl.keep [true, false, false] rfl) h)
