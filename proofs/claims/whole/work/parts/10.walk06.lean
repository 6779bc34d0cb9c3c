/-! X12_readHook -/
set_option maxRecDepth 20000 in
set_option maxHeartbeats 4000000 in
theorem t_X12_readHook_86 {p : Program} {l : Launch} {e : Env} {s : State} {m : MethodId} {args : Array Value} {below : List Frame} {meth : Method} {c : Code} {H : Heap} {locs : List Loc} {D : va_G} {tc : Nat → ClassId} {b0 : Nat} {ls : Array Slot} {G : Lay} {Qx : Int32 → Mem → Prop} {l0 : Nat}  {σ : Mem} (C : Cx p s m args meth c cX12_readHook RX12 5 D tc b0) (hr : meth.sig.returnType = (some FieldType.boolean)) (hS : va_S (AA b0) s.heap H locs) (hW : Wd G D tc b0 σ H) (hl : hL b0 ls 5 [some (.inr (.inr l0)), none, none, none, none]) (h : X_X12_readHook_86 G Qx l0  σ) : W p l e rm_X12_readHook s m args below meth c H locs 0 0 (MQ below (va_Qi Qx (fun u t => Pw G D tc b0 u t) (AA b0)) args s 0 0 (AA b0)) (F0 m 86 ls []) := by
  have hx := C.1
  have hb := C.2.1
  unfold X_X12_readHook_86 at h
  refine x_aload_n C hl dX12_readHook_86 rfl ?_
  refine lv_iconst (v := (3 : Int32)) hx hb dX12_readHook_87 (by decide) ?_
  have t1 := h.1
  replace h := h.2
  refine y_i (x_run (As := [.int (3 : Int32)]) C hW hS (T_X12_fails l l0 (3 : Int32) σ _ h) t1 kl_12 (CW.of yv_X12_fails ml_X12_261) ⟨rfl, rfl, ⟨by decide, by decide⟩, by decide, by decide⟩ rfl hl.1 rfl (by decide) dX12_readHook_88) hS (fun w3 s2 H locs h hW hS => ?_)
  exact r_z C hr hW hS h.1 h.2 dX12_readHook_91
set_option maxRecDepth 20000 in
set_option maxHeartbeats 4000000 in
theorem t_X12_readHook_42 {p : Program} {l : Launch} {e : Env} {s : State} {m : MethodId} {args : Array Value} {below : List Frame} {meth : Method} {c : Code} {H : Heap} {locs : List Loc} {D : va_G} {tc : Nat → ClassId} {b0 : Nat} {ls : Array Slot} {G : Lay} {Qx : Int32 → Mem → Prop} {l0 : Nat} {l1 : Int32} {l2 : Int32}  {σ : Mem} (C : Cx p s m args meth c cX12_readHook RX12 5 D tc b0) (hr : meth.sig.returnType = (some FieldType.boolean)) (hS : va_S (AA b0) s.heap H locs) (hW : Wd G D tc b0 σ H) (hl : hL b0 ls 5 [some (.inr (.inr l0)), some (.inl l1), some (.inl l2), none, none]) (h : X_X12_readHook_42 G Qx l0 l1 l2  σ) : W p l e rm_X12_readHook s m args below meth c H locs 0 0 (MQ below (va_Qi Qx (fun u t => Pw G D tc b0 u t) (AA b0)) args s 0 0 (AA b0)) (F0 m 42 ls []) := by
  have hx := C.1
  have hb := C.2.1
  unfold X_X12_readHook_42 at h
  refine x_aload_n C hl dX12_readHook_42 rfl ?_
  have t1 := h.1
  replace h := h.2
  refine y_v (x_run (As := []) C hW hS (T_X12_advance l l0 σ _ h) t1 kl_12 (CW.of yv_X12_advance ml_X12_271) ⟨rfl, rfl, ⟨by decide, by decide⟩, by decide, by decide⟩ rfl hl.1 rfl (by decide) dX12_readHook_43) hS (fun s2 H locs h hW hS => ?_)
  refine x_aload_n C hl dX12_readHook_46 rfl ?_
  refine y_i (x_run (As := []) C hW hS (T_X12_isName l l0 s2 _ h) t1 kl_12 (CW.of yv_X12_isName ml_X12_319) ⟨rfl, rfl, ⟨by decide, by decide⟩, by decide, by decide⟩ rfl hl.1 rfl (by decide) dX12_readHook_47) hS (fun w4 s3 H locs h hW hS => ?_)
  refine lv_if_ne hx hb dX12_readHook_50 (tgt := 58) rfl (fun hc => ?_) (fun hc => ?_)
  · replace h := h.2 hc
    refine x_aload_n C hl dX12_readHook_58 rfl ?_
    refine x_iload_n C hl dX12_readHook_59 rfl ?_
    refine x_aload_n C hl dX12_readHook_60 rfl ?_
    refine x_get C hW (t := 12) (k := 52) t1 kl_12 (by decide) fl_X12_246 (v := .long (mJ s3 l0 52)) rfl dX12_readHook_61 ?_
    refine y_i (x_run (As := [.int l1, .long (mJ s3 l0 52)]) C hW hS (T_X12_memberNamed l l0 l1 (mJ s3 l0 52) s3 _ h) t1 kl_12 (CW.of yv_X12_memberNamed ml_X12_311) ⟨rfl, rfl, ⟨by decide, by decide⟩, by decide, by decide⟩ rfl hl.1 rfl (by decide) dX12_readHook_64) hS (fun w6 s5 H locs h hW hS => ?_)
    refine x_istore_n C hl dX12_readHook_67 (by decide) rfl (fun ls hl => ?_)
    refine x_iload_n C hl dX12_readHook_68 rfl ?_
    refine lv_if_lt hx hb dX12_readHook_69 (tgt := 86) rfl (fun hc => ?_) (fun hc => ?_)
    · replace h := h.1 hc
      exact t_X12_readHook_86 C hr hS hW (hl.keep [true, false, false, false, false] rfl) h
    · replace h := h.2 hc
      refine x_aload_n C hl dX12_readHook_72 rfl ?_
      refine x_get C hW (t := 12) (k := 9) t1 kl_12 (by decide) fl_X12_32 (v := rv b0 (mR s5 l0 9)) rfl dX12_readHook_73 ?_
      refine lv_bipush (v := (16 : Int32)) hx hb dX12_readHook_76 (by decide) ?_
      refine x_iload_n C hl dX12_readHook_78 rfl ?_
      refine lv_imul hx hb dX12_readHook_79 ?_
      refine x_iload_n C hl dX12_readHook_80 rfl ?_
      refine lv_iadd hx hb dX12_readHook_81 ?_
      have t7 := h.1
      replace h := h.2
      have v8 := h.1
      replace h := h.2
      refine x_iald C hW t7 v8 dX12_readHook_82 ?_
      refine lv_if_eq hx hb dX12_readHook_83 (tgt := 92) rfl (fun hc => ?_) (fun hc => ?_)
      · replace h := h.1 hc
        refine lv_iconst (v := (4 : Int32)) hx hb dX12_readHook_92 (by decide) ?_
        refine x_iload_n C hl dX12_readHook_93 rfl ?_
        refine lv_imul hx hb dX12_readHook_94 ?_
        refine x_aload_n C hl dX12_readHook_95 rfl ?_
        refine x_get C hW (t := 12) (k := 7) t1 kl_12 (by decide) fl_X12_26 (v := rv b0 (mR s5 l0 7)) rfl dX12_readHook_96 ?_
        refine x_iload_n C hl dX12_readHook_99 rfl ?_
        have t9 := h.1
        replace h := h.2
        have v10 := h.1
        replace h := h.2
        refine x_iald C hW t9 v10 dX12_readHook_100 ?_
        refine lv_iadd hx hb dX12_readHook_101 ?_
        refine x_istore C hl dX12_readHook_102 (by decide) rfl (fun ls hl => ?_)
        refine x_aload_n C hl dX12_readHook_104 rfl ?_
        refine x_get C hW (t := 12) (k := 20) t1 kl_12 (by decide) fl_X12_65 (v := rv b0 (mR s5 l0 20)) rfl dX12_readHook_105 ?_
        refine x_iload C hl dX12_readHook_108 rfl ?_
        refine x_iload_n C hl dX12_readHook_110 rfl ?_
        refine lv_bipush (v := (16 : Int32)) hx hb dX12_readHook_111 (by decide) ?_
        refine lv_isub hx hb dX12_readHook_113 ?_
        have t11 := h.1
        replace h := h.2
        have v12 := h.1
        replace h := h.2
        refine x_iast C hW hS t11 v12 dX12_readHook_114 (fun H locs hW hS => ?_)
        obtain ⟨s13, e_s13⟩ : ∃ z : Mem, z = (sI s5 (mR s5 l0 20) (((4 : Int32) * l1) + (mI s5 (mR s5 l0 7) l1.toNatClampNeg)).toNatClampNeg (l2 - (16 : Int32))) := ⟨_, rfl⟩
        replace h := h s13 e_s13
        replace hW : Wd G D tc b0 s13 H := by rw [e_s13]; exact hW
        refine x_aload_n C hl dX12_readHook_115 rfl ?_
        refine x_get C hW (t := 12) (k := 21) t1 kl_12 (by decide) fl_X12_68 (v := rv b0 (mR s13 l0 21)) rfl dX12_readHook_116 ?_
        refine x_iload C hl dX12_readHook_119 rfl ?_
        refine x_iload_n C hl dX12_readHook_121 rfl ?_
        have t14 := h.1
        replace h := h.2
        have v15 := h.1
        replace h := h.2
        refine x_iast C hW hS t14 v15 dX12_readHook_122 (fun H locs hW hS => ?_)
        obtain ⟨s16, e_s16⟩ : ∃ z : Mem, z = (sI s13 (mR s13 l0 21) (((4 : Int32) * l1) + (mI s5 (mR s5 l0 7) l1.toNatClampNeg)).toNatClampNeg w6) := ⟨_, rfl⟩
        replace h := h s16 e_s16
        replace hW : Wd G D tc b0 s16 H := by rw [e_s16]; exact hW
        refine x_aload_n C hl dX12_readHook_123 rfl ?_
        refine y_v (x_run (As := []) C hW hS (T_X12_advance l l0 s16 _ h) t1 kl_12 (CW.of yv_X12_advance ml_X12_271) ⟨rfl, rfl, ⟨by decide, by decide⟩, by decide, by decide⟩ rfl hl.1 rfl (by decide) dX12_readHook_124) hS (fun s17 H locs h hW hS => ?_)
        refine x_aload_n C hl dX12_readHook_127 rfl ?_
        refine lv_bipush (v := (43 : Int32)) hx hb dX12_readHook_128 (by decide) ?_
        refine y_i (x_run (As := [.int (43 : Int32)]) C hW hS (T_X12_needs l l0 (43 : Int32) s17 _ h) t1 kl_12 (CW.of yv_X12_needs ml_X12_326) ⟨rfl, rfl, ⟨by decide, by decide⟩, by decide, by decide⟩ rfl hl.1 rfl (by decide) dX12_readHook_130) hS (fun w19 s18 H locs h hW hS => ?_)
        refine lv_if_ne hx hb dX12_readHook_133 (tgt := 138) rfl (fun hc => ?_) (fun hc => ?_)
        · replace h := h.2 hc
          refine x_aload_n C hl dX12_readHook_138 rfl ?_
          refine x_get C hW (t := 12) (k := 51) t1 kl_12 (by decide) fl_X12_243 (v := .int (mI s18 l0 51)) rfl dX12_readHook_139 ?_
          refine lv_iconst (v := (3 : Int32)) hx hb dX12_readHook_142 (by decide) ?_
          refine lv_icmp_eq hx hb dX12_readHook_143 (tgt := 151) rfl (fun hc => ?_) (fun hc => ?_)
          · replace h := h.1 hc
            refine x_aload_n C hl dX12_readHook_151 rfl ?_
            refine x_get C hW (t := 12) (k := 22) t1 kl_12 (by decide) fl_X12_71 (v := rv b0 (mR s18 l0 22)) rfl dX12_readHook_152 ?_
            refine x_iload C hl dX12_readHook_155 rfl ?_
            refine x_aload_n C hl dX12_readHook_157 rfl ?_
            refine x_get C hW (t := 12) (k := 53) t1 kl_12 (by decide) fl_X12_252 (v := .int (mI s18 l0 53)) rfl dX12_readHook_158 ?_
            have t20 := h.1
            replace h := h.2
            have v21 := h.1
            replace h := h.2
            refine x_iast C hW hS t20 v21 dX12_readHook_161 (fun H locs hW hS => ?_)
            obtain ⟨s22, e_s22⟩ : ∃ z : Mem, z = (sI s18 (mR s18 l0 22) (((4 : Int32) * l1) + (mI s5 (mR s5 l0 7) l1.toNatClampNeg)).toNatClampNeg (mI s18 l0 53)) := ⟨_, rfl⟩
            replace h := h s22 e_s22
            replace hW : Wd G D tc b0 s22 H := by rw [e_s22]; exact hW
            refine x_aload_n C hl dX12_readHook_162 rfl ?_
            refine x_get C hW (t := 12) (k := 7) t1 kl_12 (by decide) fl_X12_26 (v := rv b0 (mR s22 l0 7)) rfl dX12_readHook_163 ?_
            refine x_iload_n C hl dX12_readHook_166 rfl ?_
            refine lv_dup2_11 hx hb dX12_readHook_167 rfl (rv_cat _ _) ?_
            have t23 := h.1
            replace h := h.2
            have v24 := h.1
            replace h := h.2
            refine x_iald C hW t23 v24 dX12_readHook_168 ?_
            refine lv_iconst (v := (1 : Int32)) hx hb dX12_readHook_169 (by decide) ?_
            refine lv_iadd hx hb dX12_readHook_170 ?_
            refine x_iast C hW hS t23 v24 dX12_readHook_171 (fun H locs hW hS => ?_)
            obtain ⟨s25, e_s25⟩ : ∃ z : Mem, z = (sI s22 (mR s22 l0 7) l1.toNatClampNeg ((mI s22 (mR s22 l0 7) l1.toNatClampNeg) + (1 : Int32))) := ⟨_, rfl⟩
            replace h := h s25 e_s25
            replace hW : Wd G D tc b0 s25 H := by rw [e_s25]; exact hW
            refine x_aload_n C hl dX12_readHook_172 rfl ?_
            refine y_v (x_run (As := []) C hW hS (T_X12_advance l l0 s25 _ h) t1 kl_12 (CW.of yv_X12_advance ml_X12_271) ⟨rfl, rfl, ⟨by decide, by decide⟩, by decide, by decide⟩ rfl hl.1 rfl (by decide) dX12_readHook_173) hS (fun s26 H locs h hW hS => ?_)
            refine x_aload_n C hl dX12_readHook_176 rfl ?_
            refine lv_bipush (v := (59 : Int32)) hx hb dX12_readHook_177 (by decide) ?_
            refine y_i (x_run (As := [.int (59 : Int32)]) C hW hS (T_X12_needs l l0 (59 : Int32) s26 _ h) t1 kl_12 (CW.of yv_X12_needs ml_X12_326) ⟨rfl, rfl, ⟨by decide, by decide⟩, by decide, by decide⟩ rfl hl.1 rfl (by decide) dX12_readHook_179) hS (fun w28 s27 H locs h hW hS => ?_)
            exact r_z C hr hW hS h.1 h.2 dX12_readHook_182
          · replace h := h.2 hc
            refine x_aload_n C hl dX12_readHook_146 rfl ?_
            refine y_i (x_run (As := []) C hW hS (T_X12_wrong l l0 s18 _ h) t1 kl_12 (CW.of yv_X12_wrong ml_X12_267) ⟨rfl, rfl, ⟨by decide, by decide⟩, by decide, by decide⟩ rfl hl.1 rfl (by decide) dX12_readHook_147) hS (fun w30 s29 H locs h hW hS => ?_)
            exact r_z C hr hW hS h.1 h.2 dX12_readHook_150
        · replace h := h.1 hc
          refine lv_iconst (v := (0 : Int32)) hx hb dX12_readHook_136 (by decide) ?_
          exact r_z C hr hW hS h.1 h.2 dX12_readHook_137
      · replace h := h.2 hc
        exact t_X12_readHook_86 C hr hS hW (hl.keep [true, false, false, false, false] rfl) h
  · replace h := h.1 hc
    refine x_aload_n C hl dX12_readHook_53 rfl ?_
    refine y_i (x_run (As := []) C hW hS (T_X12_wrong l l0 s3 _ h) t1 kl_12 (CW.of yv_X12_wrong ml_X12_267) ⟨rfl, rfl, ⟨by decide, by decide⟩, by decide, by decide⟩ rfl hl.1 rfl (by decide) dX12_readHook_54) hS (fun w32 s31 H locs h hW hS => ?_)
    exact r_z C hr hW hS h.1 h.2 dX12_readHook_57
set_option maxRecDepth 20000 in
set_option maxHeartbeats 4000000 in
theorem t_X12_readHook_0 {p : Program} {l : Launch} {e : Env} {s : State} {m : MethodId} {args : Array Value} {below : List Frame} {meth : Method} {c : Code} {H : Heap} {locs : List Loc} {D : va_G} {tc : Nat → ClassId} {b0 : Nat} {ls : Array Slot} {G : Lay} {Qx : Int32 → Mem → Prop} {l0 : Nat} {l1 : Int32}  {σ : Mem} (C : Cx p s m args meth c cX12_readHook RX12 5 D tc b0) (hr : meth.sig.returnType = (some FieldType.boolean)) (hS : va_S (AA b0) s.heap H locs) (hW : Wd G D tc b0 σ H) (hl : hL b0 ls 5 [some (.inr (.inr l0)), some (.inl l1), none, none, none]) (h : X_X12_readHook_0 G Qx l0 l1  σ) : W p l e rm_X12_readHook s m args below meth c H locs 0 0 (MQ below (va_Qi Qx (fun u t => Pw G D tc b0 u t) (AA b0)) args s 0 0 (AA b0)) (F0 m 0 ls []) := by
  have hx := C.1
  have hb := C.2.1
  unfold X_X12_readHook_0 at h
  refine x_aload_n C hl dX12_readHook_0 rfl ?_
  have t1 := h.1
  replace h := h.2
  refine x_get C hW (t := 12) (k := 7) t1 kl_12 (by decide) fl_X12_26 (v := rv b0 (mR σ l0 7)) rfl dX12_readHook_1 ?_
  refine x_iload_n C hl dX12_readHook_4 rfl ?_
  have t2 := h.1
  replace h := h.2
  have v3 := h.1
  replace h := h.2
  refine x_iald C hW t2 v3 dX12_readHook_5 ?_
  refine lv_iconst (v := (4 : Int32)) hx hb dX12_readHook_6 (by decide) ?_
  refine lv_icmp_ne hx hb dX12_readHook_7 (tgt := 16) rfl (fun hc => ?_) (fun hc => ?_)
  · replace h := h.2 hc
    refine x_aload_n C hl dX12_readHook_16 rfl ?_
    refine y_v (x_run (As := []) C hW hS (T_X12_advance l l0 σ _ h) t1 kl_12 (CW.of yv_X12_advance ml_X12_271) ⟨rfl, rfl, ⟨by decide, by decide⟩, by decide, by decide⟩ rfl hl.1 rfl (by decide) dX12_readHook_17) hS (fun s4 H locs h hW hS => ?_)
    refine x_aload_n C hl dX12_readHook_20 rfl ?_
    refine y_i (x_run (As := []) C hW hS (T_X12_toldWord l l0 s4 _ h) t1 kl_12 (CW.of yv_X12_toldWord ml_X12_284) ⟨rfl, rfl, ⟨by decide, by decide⟩, by decide, by decide⟩ rfl hl.1 rfl (by decide) dX12_readHook_21) hS (fun w6 s5 H locs h hW hS => ?_)
    refine x_istore_n C hl dX12_readHook_24 (by decide) rfl (fun ls hl => ?_)
    refine x_iload_n C hl dX12_readHook_25 rfl ?_
    refine lv_bipush (v := (16 : Int32)) hx hb dX12_readHook_26 (by decide) ?_
    refine lv_icmp_eq hx hb dX12_readHook_28 (tgt := 42) rfl (fun hc => ?_) (fun hc => ?_)
    · replace h := h.1 hc
      exact t_X12_readHook_42 C hr hS hW (hl.keep [true, true, true, false, false] rfl) h
    · replace h := h.2 hc
      refine x_iload_n C hl dX12_readHook_31 rfl ?_
      refine lv_bipush (v := (17 : Int32)) hx hb dX12_readHook_32 (by decide) ?_
      refine lv_icmp_eq hx hb dX12_readHook_34 (tgt := 42) rfl (fun hc => ?_) (fun hc => ?_)
      · replace h := h.1 hc
        exact t_X12_readHook_42 C hr hS hW (hl.keep [true, true, true, false, false] rfl) h
      · replace h := h.2 hc
        refine x_aload_n C hl dX12_readHook_37 rfl ?_
        refine y_i (x_run (As := []) C hW hS (T_X12_wrong l l0 s5 _ h) t1 kl_12 (CW.of yv_X12_wrong ml_X12_267) ⟨rfl, rfl, ⟨by decide, by decide⟩, by decide, by decide⟩ rfl hl.1 rfl (by decide) dX12_readHook_38) hS (fun w8 s7 H locs h hW hS => ?_)
        exact r_z C hr hW hS h.1 h.2 dX12_readHook_41
  · replace h := h.1 hc
    refine x_aload_n C hl dX12_readHook_10 rfl ?_
    refine lv_iconst (v := (4 : Int32)) hx hb dX12_readHook_11 (by decide) ?_
    refine y_i (x_run (As := [.int (4 : Int32)]) C hW hS (T_X12_fails l l0 (4 : Int32) σ _ h) t1 kl_12 (CW.of yv_X12_fails ml_X12_261) ⟨rfl, rfl, ⟨by decide, by decide⟩, by decide, by decide⟩ rfl hl.1 rfl (by decide) dX12_readHook_12) hS (fun w10 s9 H locs h hW hS => ?_)
    exact r_z C hr hW hS h.1 h.2 dX12_readHook_15
theorem T_X12_readHook (l : Launch) {G : Lay} {D : va_G} {tc : Nat → ClassId} {b0 : Nat} (l0 : Nat) (l1 : Int32) (σ : Mem) (Qx : Int32 → Mem → Prop) (h : X_X12_readHook G Qx l0 l1 σ) : MI l yX12_readHook cX12_readHook 5 ((some FieldType.boolean)) rm_X12_readHook G D tc b0 [rv b0 l0, .int l1] σ Qx :=
  x_entry (y := yX12_readHook) [.inr (.inr l0), .inl l1] 3 (by decide) (Nat.le_of_ble_eq_true rfl) (fun p e s m args below meth c ls C hr hW hl => t_X12_readHook_0 C hr va_S.rf hW (hl.keep [true, true, false, false, false] rfl) h)
/-! X12_readNames -/
set_option maxRecDepth 20000 in
set_option maxHeartbeats 4000000 in
theorem t_X12_readNames_55_n {p : Program} {l : Launch} {e : Env} {s : State} {m : MethodId} {args : Array Value} {below : List Frame} {meth : Method} {c : Code} {D : va_G} {tc : Nat → ClassId} {b0 : Nat} {G : Lay} {Qx : Int32 → Mem → Prop} {l0 : Nat} {l1 : Int32} {K33 : Int32 × Mem → Prop} (C : Cx p s m args meth c cX12_readNames RX12 4 D tc b0) (hr : meth.sig.returnType = (some FieldType.boolean)) (hK33 : ∀ (x2 : Int32) (σ : Mem) (H : Heap) (locs : List Loc) (ls : Array Slot), va_S (AA b0) s.heap H locs → Wd G D tc b0 σ H → hL b0 ls 4 [some (.inr (.inr l0)), some (.inl l1), some (.inl x2), none] → K33 (x2, σ) → W p l e rm_X12_readNames s m args below meth c H locs 0 0 (MQ below (va_Qi Qx (fun u t => Pw G D tc b0 u t) (AA b0)) args s 0 0 (AA b0)) (F0 m 33 ls [])) (n : Nat) : ∀ (l3 : Int32) (σ : Mem) (H : Heap) (locs : List Loc) (ls : Array Slot), va_S (AA b0) s.heap H locs → Wd G D tc b0 σ H → hL b0 ls 4 [some (.inr (.inr l0)), some (.inl l1), none, some (.inl l3)] → Lp (X_X12_readNames_55_s G Qx K33 l0 l1) n (l3, σ) → W p l e rm_X12_readNames s m args below meth c H locs 0 0 (MQ below (va_Qi Qx (fun u t => Pw G D tc b0 u t) (AA b0)) args s 0 0 (AA b0)) (F0 m 55 ls []) := by
  have hx := C.1
  have hb := C.2.1
  induction n with
  | zero => intro l3 σ H locs ls hS hW hl h; exact False.elim h
  | succ n hK55 =>
    intro l3 σ H locs ls hS hW hl h
    replace h : X_X12_readNames_55_s G Qx K33 l0 l1 (Lp (X_X12_readNames_55_s G Qx K33 l0 l1) n) (l3, σ) := h
    unfold X_X12_readNames_55_s at h
    refine x_iload_n C hl dX12_readNames_55 rfl ?_
    refine x_aload_n C hl dX12_readNames_56 rfl ?_
    have t1 := h.1
    replace h := h.2
    refine x_get C hW (t := 12) (k := 12) t1 kl_12 (by decide) fl_X12_41 (v := rv b0 (mR σ l0 12)) rfl dX12_readNames_57 ?_
    refine x_iload_n C hl dX12_readNames_60 rfl ?_
    have t2 := h.1
    replace h := h.2
    have v3 := h.1
    replace h := h.2
    refine x_iald C hW t2 v3 dX12_readNames_61 ?_
    refine lv_icmp_ge hx hb dX12_readNames_62 (tgt := 98) rfl (fun hc => ?_) (fun hc => ?_)
    · replace h := h.1 hc
      refine x_aload_n C hl dX12_readNames_98 rfl ?_
      refine x_get C hW (t := 12) (k := 23) t1 kl_12 (by decide) fl_X12_74 (v := rv b0 (mR σ l0 23)) rfl dX12_readNames_99 ?_
      refine x_aload_n C hl dX12_readNames_102 rfl ?_
      refine x_get C hW (t := 12) (k := 25) t1 kl_12 (by decide) fl_X12_294 (v := .int (mI σ l0 25)) rfl dX12_readNames_103 ?_
      refine x_aload_n C hl dX12_readNames_106 rfl ?_
      refine x_get C hW (t := 12) (k := 52) t1 kl_12 (by decide) fl_X12_246 (v := .long (mJ σ l0 52)) rfl dX12_readNames_107 ?_
      have t4 := h.1
      replace h := h.2
      have v5 := h.1
      replace h := h.2
      refine x_last C hW hS t4 v5 dX12_readNames_110 (fun H locs hW hS => ?_)
      obtain ⟨s6, e_s6⟩ : ∃ z : Mem, z = (sJ σ (mR σ l0 23) (mI σ l0 25).toNatClampNeg (mJ σ l0 52)) := ⟨_, rfl⟩
      replace h := h s6 e_s6
      replace hW : Wd G D tc b0 s6 H := by rw [e_s6]; exact hW
      refine x_aload_n C hl dX12_readNames_111 rfl ?_
      refine lv_dup hx hb dX12_readNames_112 (rv_cat _ _) ?_
      refine x_get C hW (t := 12) (k := 25) t1 kl_12 (by decide) fl_X12_294 (v := .int (mI s6 l0 25)) rfl dX12_readNames_113 ?_
      refine lv_iconst (v := (1 : Int32)) hx hb dX12_readNames_116 (by decide) ?_
      refine lv_iadd hx hb dX12_readNames_117 ?_
      refine x_putI C hW hS (t := 12) (k := 25) t1 kl_12 (by decide) fl_X12_294 rfl rfl rfl rfl dX12_readNames_118 (fun H locs hW hS => ?_)
      obtain ⟨s7, e_s7⟩ : ∃ z : Mem, z = (sI s6 l0 25 ((mI s6 l0 25) + (1 : Int32))) := ⟨_, rfl⟩
      replace h := h s7 e_s7
      replace hW : Wd G D tc b0 s7 H := by rw [e_s7]; exact hW
      refine x_aload_n C hl dX12_readNames_121 rfl ?_
      refine x_get C hW (t := 12) (k := 12) t1 kl_12 (by decide) fl_X12_41 (v := rv b0 (mR s7 l0 12)) rfl dX12_readNames_122 ?_
      refine x_iload_n C hl dX12_readNames_125 rfl ?_
      refine lv_dup2_11 hx hb dX12_readNames_126 rfl (rv_cat _ _) ?_
      have t8 := h.1
      replace h := h.2
      have v9 := h.1
      replace h := h.2
      refine x_iald C hW t8 v9 dX12_readNames_127 ?_
      refine lv_iconst (v := (1 : Int32)) hx hb dX12_readNames_128 (by decide) ?_
      refine lv_iadd hx hb dX12_readNames_129 ?_
      refine x_iast C hW hS t8 v9 dX12_readNames_130 (fun H locs hW hS => ?_)
      obtain ⟨s10, e_s10⟩ : ∃ z : Mem, z = (sI s7 (mR s7 l0 12) l1.toNatClampNeg ((mI s7 (mR s7 l0 12) l1.toNatClampNeg) + (1 : Int32))) := ⟨_, rfl⟩
      replace h := h s10 e_s10
      replace hW : Wd G D tc b0 s10 H := by rw [e_s10]; exact hW
      refine x_aload_n C hl dX12_readNames_131 rfl ?_
      refine y_v (x_run (As := []) C hW hS (T_X12_advance l l0 s10 _ h) t1 kl_12 (CW.of yv_X12_advance ml_X12_271) ⟨rfl, rfl, ⟨by decide, by decide⟩, by decide, by decide⟩ rfl hl.1 rfl (by decide) dX12_readNames_132) hS (fun s11 H locs h hW hS => ?_)
      refine x_aload_n C hl dX12_readNames_135 rfl ?_
      refine lv_bipush (v := (44 : Int32)) hx hb dX12_readNames_136 (by decide) ?_
      refine y_i (x_run (As := [.int (44 : Int32)]) C hW hS (T_X12_is l l0 (44 : Int32) s11 _ h) t1 kl_12 (CW.of yv_X12_is ml_X12_264) ⟨rfl, rfl, ⟨by decide, by decide⟩, by decide, by decide⟩ rfl hl.1 rfl (by decide) dX12_readNames_138) hS (fun w13 s12 H locs h hW hS => ?_)
      refine x_istore_n C hl dX12_readNames_141 (by decide) rfl (fun ls hl => ?_)
      refine lv_goto hx hb dX12_readNames_142 (tgt := 33) rfl ?_
      exact hK33 _ _ _ _ _ hS hW (hl.keep [true, true, true, false] rfl) h
    · replace h := h.2 hc
      refine x_aload_n C hl dX12_readNames_65 rfl ?_
      refine x_get C hW (t := 12) (k := 23) t1 kl_12 (by decide) fl_X12_74 (v := rv b0 (mR σ l0 23)) rfl dX12_readNames_66 ?_
      refine x_aload_n C hl dX12_readNames_69 rfl ?_
      refine x_get C hW (t := 12) (k := 11) t1 kl_12 (by decide) fl_X12_38 (v := rv b0 (mR σ l0 11)) rfl dX12_readNames_70 ?_
      refine x_iload_n C hl dX12_readNames_73 rfl ?_
      have t14 := h.1
      replace h := h.2
      have v15 := h.1
      replace h := h.2
      refine x_iald C hW t14 v15 dX12_readNames_74 ?_
      refine x_iload_n C hl dX12_readNames_75 rfl ?_
      refine lv_iadd hx hb dX12_readNames_76 ?_
      have t16 := h.1
      replace h := h.2
      have v17 := h.1
      replace h := h.2
      refine x_lald C hW t16 v17 dX12_readNames_77 ?_
      refine x_aload_n C hl dX12_readNames_78 rfl ?_
      refine x_get C hW (t := 12) (k := 52) t1 kl_12 (by decide) fl_X12_246 (v := .long (mJ σ l0 52)) rfl dX12_readNames_79 ?_
      refine W.lcmp hx hb dX12_readNames_82 ?_
      refine lv_if_ne hx hb dX12_readNames_83 (tgt := 92) rfl (fun hc => ?_) (fun hc => ?_)
      · replace h := h.2 hc
        refine x_iinc C hl dX12_readNames_92 rfl (v := (1 : Int32)) (by decide) (by decide) rfl (fun ls hl => ?_)
        refine lv_goto hx hb dX12_readNames_95 (tgt := 55) rfl ?_
        exact hK55 _ _ _ _ _ hS hW (hl.keep [true, true, false, true] rfl) h
      · replace h := h.1 hc
        refine x_aload_n C hl dX12_readNames_86 rfl ?_
        refine lv_iconst (v := (3 : Int32)) hx hb dX12_readNames_87 (by decide) ?_
        refine y_i (x_run (As := [.int (3 : Int32)]) C hW hS (T_X12_fails l l0 (3 : Int32) σ _ h) t1 kl_12 (CW.of yv_X12_fails ml_X12_261) ⟨rfl, rfl, ⟨by decide, by decide⟩, by decide, by decide⟩ rfl hl.1 rfl (by decide) dX12_readNames_88) hS (fun w19 s18 H locs h hW hS => ?_)
        exact r_z C hr hW hS h.1 h.2 dX12_readNames_91
set_option maxRecDepth 20000 in
set_option maxHeartbeats 4000000 in
theorem t_X12_readNames_55 {p : Program} {l : Launch} {e : Env} {s : State} {m : MethodId} {args : Array Value} {below : List Frame} {meth : Method} {c : Code} {H : Heap} {locs : List Loc} {D : va_G} {tc : Nat → ClassId} {b0 : Nat} {ls : Array Slot} {G : Lay} {Qx : Int32 → Mem → Prop} {l0 : Nat} {l1 : Int32} {l3 : Int32}  {K33 : Int32 × Mem → Prop} {σ : Mem} (C : Cx p s m args meth c cX12_readNames RX12 4 D tc b0) (hr : meth.sig.returnType = (some FieldType.boolean)) (hK33 : ∀ (x2 : Int32) (σ : Mem) (H : Heap) (locs : List Loc) (ls : Array Slot), va_S (AA b0) s.heap H locs → Wd G D tc b0 σ H → hL b0 ls 4 [some (.inr (.inr l0)), some (.inl l1), some (.inl x2), none] → K33 (x2, σ) → W p l e rm_X12_readNames s m args below meth c H locs 0 0 (MQ below (va_Qi Qx (fun u t => Pw G D tc b0 u t) (AA b0)) args s 0 0 (AA b0)) (F0 m 33 ls [])) (hS : va_S (AA b0) s.heap H locs) (hW : Wd G D tc b0 σ H) (hl : hL b0 ls 4 [some (.inr (.inr l0)), some (.inl l1), none, some (.inl l3)]) (h : X_X12_readNames_55 G Qx K33 l0 l1 l3 σ) : W p l e rm_X12_readNames s m args below meth c H locs 0 0 (MQ below (va_Qi Qx (fun u t => Pw G D tc b0 u t) (AA b0)) args s 0 0 (AA b0)) (F0 m 55 ls []) := by
  obtain ⟨n, h⟩ := h
  exact t_X12_readNames_55_n C hr hK33 n l3 σ H locs ls hS hW hl h
set_option maxRecDepth 20000 in
set_option maxHeartbeats 4000000 in
theorem t_X12_readNames_33_n {p : Program} {l : Launch} {e : Env} {s : State} {m : MethodId} {args : Array Value} {below : List Frame} {meth : Method} {c : Code} {D : va_G} {tc : Nat → ClassId} {b0 : Nat} {G : Lay} {Qx : Int32 → Mem → Prop} {l0 : Nat} {l1 : Int32} (C : Cx p s m args meth c cX12_readNames RX12 4 D tc b0) (hr : meth.sig.returnType = (some FieldType.boolean)) (n : Nat) : ∀ (l2 : Int32) (σ : Mem) (H : Heap) (locs : List Loc) (ls : Array Slot), va_S (AA b0) s.heap H locs → Wd G D tc b0 σ H → hL b0 ls 4 [some (.inr (.inr l0)), some (.inl l1), some (.inl l2), none] → Lp (X_X12_readNames_33_s G Qx l0 l1) n (l2, σ) → W p l e rm_X12_readNames s m args below meth c H locs 0 0 (MQ below (va_Qi Qx (fun u t => Pw G D tc b0 u t) (AA b0)) args s 0 0 (AA b0)) (F0 m 33 ls []) := by
  have hx := C.1
  have hb := C.2.1
  induction n with
  | zero => intro l2 σ H locs ls hS hW hl h; exact False.elim h
  | succ n hK33 =>
    intro l2 σ H locs ls hS hW hl h
    replace h : X_X12_readNames_33_s G Qx l0 l1 (Lp (X_X12_readNames_33_s G Qx l0 l1) n) (l2, σ) := h
    unfold X_X12_readNames_33_s at h
    refine x_iload_n C hl dX12_readNames_33 rfl ?_
    refine lv_if_eq hx hb dX12_readNames_34 (tgt := 145) rfl (fun hc => ?_) (fun hc => ?_)
    · replace h := h.1 hc
      refine x_aload_n C hl dX12_readNames_145 rfl ?_
      refine lv_bipush (v := (41 : Int32)) hx hb dX12_readNames_146 (by decide) ?_
      have t1 := h.1
      replace h := h.2
      refine y_i (x_run (As := [.int (41 : Int32)]) C hW hS (T_X12_needs l l0 (41 : Int32) σ _ h) t1 kl_12 (CW.of yv_X12_needs ml_X12_326) ⟨rfl, rfl, ⟨by decide, by decide⟩, by decide, by decide⟩ rfl hl.1 rfl (by decide) dX12_readNames_148) hS (fun w3 s2 H locs h hW hS => ?_)
      exact r_z C hr hW hS h.1 h.2 dX12_readNames_151
    · replace h := h.2 hc
      refine x_aload_n C hl dX12_readNames_37 rfl ?_
      have t4 := h.1
      replace h := h.2
      refine y_v (x_run (As := []) C hW hS (T_X12_advance l l0 σ _ h) t4 kl_12 (CW.of yv_X12_advance ml_X12_271) ⟨rfl, rfl, ⟨by decide, by decide⟩, by decide, by decide⟩ rfl hl.1 rfl (by decide) dX12_readNames_38) hS (fun s5 H locs h hW hS => ?_)
      refine x_aload_n C hl dX12_readNames_41 rfl ?_
      refine y_i (x_run (As := []) C hW hS (T_X12_isName l l0 s5 _ h) t4 kl_12 (CW.of yv_X12_isName ml_X12_319) ⟨rfl, rfl, ⟨by decide, by decide⟩, by decide, by decide⟩ rfl hl.1 rfl (by decide) dX12_readNames_42) hS (fun w7 s6 H locs h hW hS => ?_)
      refine lv_if_ne hx hb dX12_readNames_45 (tgt := 53) rfl (fun hc => ?_) (fun hc => ?_)
      · replace h := h.2 hc
        refine lv_iconst (v := (0 : Int32)) hx hb dX12_readNames_53 (by decide) ?_
        refine x_istore_n C hl dX12_readNames_54 (by decide) rfl (fun ls hl => ?_)
        exact t_X12_readNames_55 C hr hK33 hS hW (hl.keep [true, true, false, true] rfl) h
      · replace h := h.1 hc
        refine x_aload_n C hl dX12_readNames_48 rfl ?_
        refine y_i (x_run (As := []) C hW hS (T_X12_wrong l l0 s6 _ h) t4 kl_12 (CW.of yv_X12_wrong ml_X12_267) ⟨rfl, rfl, ⟨by decide, by decide⟩, by decide, by decide⟩ rfl hl.1 rfl (by decide) dX12_readNames_49) hS (fun w9 s8 H locs h hW hS => ?_)
        exact r_z C hr hW hS h.1 h.2 dX12_readNames_52
set_option maxRecDepth 20000 in
set_option maxHeartbeats 4000000 in
theorem t_X12_readNames_33 {p : Program} {l : Launch} {e : Env} {s : State} {m : MethodId} {args : Array Value} {below : List Frame} {meth : Method} {c : Code} {H : Heap} {locs : List Loc} {D : va_G} {tc : Nat → ClassId} {b0 : Nat} {ls : Array Slot} {G : Lay} {Qx : Int32 → Mem → Prop} {l0 : Nat} {l1 : Int32} {l2 : Int32}  {σ : Mem} (C : Cx p s m args meth c cX12_readNames RX12 4 D tc b0) (hr : meth.sig.returnType = (some FieldType.boolean)) (hS : va_S (AA b0) s.heap H locs) (hW : Wd G D tc b0 σ H) (hl : hL b0 ls 4 [some (.inr (.inr l0)), some (.inl l1), some (.inl l2), none]) (h : X_X12_readNames_33 G Qx l0 l1 l2 σ) : W p l e rm_X12_readNames s m args below meth c H locs 0 0 (MQ below (va_Qi Qx (fun u t => Pw G D tc b0 u t) (AA b0)) args s 0 0 (AA b0)) (F0 m 33 ls []) := by
  obtain ⟨n, h⟩ := h
  exact t_X12_readNames_33_n C hr n l2 σ H locs ls hS hW hl h
set_option maxRecDepth 20000 in
set_option maxHeartbeats 4000000 in
theorem t_X12_readNames_0 {p : Program} {l : Launch} {e : Env} {s : State} {m : MethodId} {args : Array Value} {below : List Frame} {meth : Method} {c : Code} {H : Heap} {locs : List Loc} {D : va_G} {tc : Nat → ClassId} {b0 : Nat} {ls : Array Slot} {G : Lay} {Qx : Int32 → Mem → Prop} {l0 : Nat} {l1 : Int32}  {σ : Mem} (C : Cx p s m args meth c cX12_readNames RX12 4 D tc b0) (hr : meth.sig.returnType = (some FieldType.boolean)) (hS : va_S (AA b0) s.heap H locs) (hW : Wd G D tc b0 σ H) (hl : hL b0 ls 4 [some (.inr (.inr l0)), some (.inl l1), none, none]) (h : X_X12_readNames_0 G Qx l0 l1  σ) : W p l e rm_X12_readNames s m args below meth c H locs 0 0 (MQ below (va_Qi Qx (fun u t => Pw G D tc b0 u t) (AA b0)) args s 0 0 (AA b0)) (F0 m 0 ls []) := by
  have hx := C.1
  have hb := C.2.1
  unfold X_X12_readNames_0 at h
  refine x_aload_n C hl dX12_readNames_0 rfl ?_
  refine lv_bipush (v := (40 : Int32)) hx hb dX12_readNames_1 (by decide) ?_
  have t1 := h.1
  replace h := h.2
  refine y_i (x_run (As := [.int (40 : Int32)]) C hW hS (T_X12_is l l0 (40 : Int32) σ _ h) t1 kl_12 (CW.of yv_X12_is ml_X12_264) ⟨rfl, rfl, ⟨by decide, by decide⟩, by decide, by decide⟩ rfl hl.1 rfl (by decide) dX12_readNames_3) hS (fun w3 s2 H locs h hW hS => ?_)
  refine lv_if_ne hx hb dX12_readNames_6 (tgt := 14) rfl (fun hc => ?_) (fun hc => ?_)
  · replace h := h.2 hc
    refine x_aload_n C hl dX12_readNames_14 rfl ?_
    refine x_get C hW (t := 12) (k := 9) t1 kl_12 (by decide) fl_X12_32 (v := rv b0 (mR s2 l0 9)) rfl dX12_readNames_15 ?_
    refine x_iload_n C hl dX12_readNames_18 rfl ?_
    refine lv_iconst (v := (3 : Int32)) hx hb dX12_readNames_19 (by decide) ?_
    have t4 := h.1
    replace h := h.2
    have v5 := h.1
    replace h := h.2
    refine x_iast C hW hS t4 v5 dX12_readNames_20 (fun H locs hW hS => ?_)
    obtain ⟨s6, e_s6⟩ : ∃ z : Mem, z = (sI s2 (mR s2 l0 9) l1.toNatClampNeg (3 : Int32)) := ⟨_, rfl⟩
    replace h := h s6 e_s6
    replace hW : Wd G D tc b0 s6 H := by rw [e_s6]; exact hW
    refine x_aload_n C hl dX12_readNames_21 rfl ?_
    refine x_get C hW (t := 12) (k := 11) t1 kl_12 (by decide) fl_X12_38 (v := rv b0 (mR s6 l0 11)) rfl dX12_readNames_22 ?_
    refine x_iload_n C hl dX12_readNames_25 rfl ?_
    refine x_aload_n C hl dX12_readNames_26 rfl ?_
    refine x_get C hW (t := 12) (k := 25) t1 kl_12 (by decide) fl_X12_294 (v := .int (mI s6 l0 25)) rfl dX12_readNames_27 ?_
    have t7 := h.1
    replace h := h.2
    have v8 := h.1
    replace h := h.2
    refine x_iast C hW hS t7 v8 dX12_readNames_30 (fun H locs hW hS => ?_)
    obtain ⟨s9, e_s9⟩ : ∃ z : Mem, z = (sI s6 (mR s6 l0 11) l1.toNatClampNeg (mI s6 l0 25)) := ⟨_, rfl⟩
    replace h := h s9 e_s9
    replace hW : Wd G D tc b0 s9 H := by rw [e_s9]; exact hW
    refine lv_iconst (v := (1 : Int32)) hx hb dX12_readNames_31 (by decide) ?_
    refine x_istore_n C hl dX12_readNames_32 (by decide) rfl (fun ls hl => ?_)
    exact t_X12_readNames_33 C hr hS hW (hl.keep [true, true, true, false] rfl) h
  · replace h := h.1 hc
    refine x_aload_n C hl dX12_readNames_9 rfl ?_
    refine y_i (x_run (As := []) C hW hS (T_X12_wrong l l0 s2 _ h) t1 kl_12 (CW.of yv_X12_wrong ml_X12_267) ⟨rfl, rfl, ⟨by decide, by decide⟩, by decide, by decide⟩ rfl hl.1 rfl (by decide) dX12_readNames_10) hS (fun w11 s10 H locs h hW hS => ?_)
    exact r_z C hr hW hS h.1 h.2 dX12_readNames_13
theorem T_X12_readNames (l : Launch) {G : Lay} {D : va_G} {tc : Nat → ClassId} {b0 : Nat} (l0 : Nat) (l1 : Int32) (σ : Mem) (Qx : Int32 → Mem → Prop) (h : X_X12_readNames G Qx l0 l1 σ) : MI l yX12_readNames cX12_readNames 4 ((some FieldType.boolean)) rm_X12_readNames G D tc b0 [rv b0 l0, .int l1] σ Qx :=
  x_entry (y := yX12_readNames) [.inr (.inr l0), .inl l1] 2 (by decide) (Nat.le_of_ble_eq_true rfl) (fun p e s m args below meth c ls C hr hW hl => t_X12_readNames_0 C hr va_S.rf hW (hl.keep [true, true, false, false] rfl) h)
/-! X12_readMember -/
set_option maxRecDepth 20000 in
set_option maxHeartbeats 4000000 in
theorem t_X12_readMember_370 {p : Program} {l : Launch} {e : Env} {s : State} {m : MethodId} {args : Array Value} {below : List Frame} {meth : Method} {c : Code} {H : Heap} {locs : List Loc} {D : va_G} {tc : Nat → ClassId} {b0 : Nat} {ls : Array Slot} {G : Lay} {Qx : Int32 → Mem → Prop} {l0 : Nat} {l1 : Int32}  {σ : Mem} (C : Cx p s m args meth c cX12_readMember RX12 4 D tc b0) (hr : meth.sig.returnType = (some FieldType.boolean)) (hS : va_S (AA b0) s.heap H locs) (hW : Wd G D tc b0 σ H) (hl : hL b0 ls 4 [some (.inr (.inr l0)), some (.inl l1), none, none]) (h : X_X12_readMember_370 G Qx l0 l1  σ) : W p l e rm_X12_readMember s m args below meth c H locs 0 0 (MQ below (va_Qi Qx (fun u t => Pw G D tc b0 u t) (AA b0)) args s 0 0 (AA b0)) (F0 m 370 ls []) := by
  have hx := C.1
  have hb := C.2.1
  unfold X_X12_readMember_370 at h
  refine x_aload_n C hl dX12_readMember_370 rfl ?_
  refine lv_bipush (v := (59 : Int32)) hx hb dX12_readMember_371 (by decide) ?_
  have t1 := h.1
  replace h := h.2
  refine y_i (x_run (As := [.int (59 : Int32)]) C hW hS (T_X12_needs l l0 (59 : Int32) σ _ h) t1 kl_12 (CW.of yv_X12_needs ml_X12_326) ⟨rfl, rfl, ⟨by decide, by decide⟩, by decide, by decide⟩ rfl hl.1 rfl (by decide) dX12_readMember_373) hS (fun w3 s2 H locs h hW hS => ?_)
  refine lv_if_ne hx hb dX12_readMember_376 (tgt := 381) rfl (fun hc => ?_) (fun hc => ?_)
  · replace h := h.2 hc
    refine x_aload_n C hl dX12_readMember_381 rfl ?_
    refine x_get C hW (t := 12) (k := 6) t1 kl_12 (by decide) fl_X12_23 (v := rv b0 (mR s2 l0 6)) rfl dX12_readMember_382 ?_
    refine x_iload_n C hl dX12_readMember_385 rfl ?_
    refine lv_dup2_11 hx hb dX12_readMember_386 rfl (rv_cat _ _) ?_
    have t4 := h.1
    replace h := h.2
    have v5 := h.1
    replace h := h.2
    refine x_iald C hW t4 v5 dX12_readMember_387 ?_
    refine lv_iconst (v := (1 : Int32)) hx hb dX12_readMember_388 (by decide) ?_
    refine lv_iadd hx hb dX12_readMember_389 ?_
    refine x_iast C hW hS t4 v5 dX12_readMember_390 (fun H locs hW hS => ?_)
    obtain ⟨s6, e_s6⟩ : ∃ z : Mem, z = (sI s2 (mR s2 l0 6) l1.toNatClampNeg ((mI s2 (mR s2 l0 6) l1.toNatClampNeg) + (1 : Int32))) := ⟨_, rfl⟩
    replace h := h s6 e_s6
    replace hW : Wd G D tc b0 s6 H := by rw [e_s6]; exact hW
    refine lv_iconst (v := (1 : Int32)) hx hb dX12_readMember_391 (by decide) ?_
    exact r_z C hr hW hS h.1 h.2 dX12_readMember_392
  · replace h := h.1 hc
    refine lv_iconst (v := (0 : Int32)) hx hb dX12_readMember_379 (by decide) ?_
    exact r_z C hr hW hS h.1 h.2 dX12_readMember_380
set_option maxRecDepth 20000 in
set_option maxHeartbeats 4000000 in
theorem t_X12_readMember_279 {p : Program} {l : Launch} {e : Env} {s : State} {m : MethodId} {args : Array Value} {below : List Frame} {meth : Method} {c : Code} {H : Heap} {locs : List Loc} {D : va_G} {tc : Nat → ClassId} {b0 : Nat} {ls : Array Slot} {G : Lay} {Qx : Int32 → Mem → Prop} {l0 : Nat} {l1 : Int32} {l2 : Int32}  {σ : Mem} (C : Cx p s m args meth c cX12_readMember RX12 4 D tc b0) (hr : meth.sig.returnType = (some FieldType.boolean)) (hS : va_S (AA b0) s.heap H locs) (hW : Wd G D tc b0 σ H) (hl : hL b0 ls 4 [some (.inr (.inr l0)), some (.inl l1), some (.inl l2), none]) (h : X_X12_readMember_279 G Qx l0 l1 l2  σ) : W p l e rm_X12_readMember s m args below meth c H locs 0 0 (MQ below (va_Qi Qx (fun u t => Pw G D tc b0 u t) (AA b0)) args s 0 0 (AA b0)) (F0 m 279 ls []) := by
  have hx := C.1
  have hb := C.2.1
  unfold X_X12_readMember_279 at h
  refine x_aload_n C hl dX12_readMember_279 rfl ?_
  have t1 := h.1
  replace h := h.2
  refine y_i (x_run (As := []) C hW hS (T_X12_toldWord l l0 σ _ h) t1 kl_12 (CW.of yv_X12_toldWord ml_X12_284) ⟨rfl, rfl, ⟨by decide, by decide⟩, by decide, by decide⟩ rfl hl.1 rfl (by decide) dX12_readMember_280) hS (fun w3 s2 H locs h hW hS => ?_)
  refine lv_bipush (v := (10 : Int32)) hx hb dX12_readMember_283 (by decide) ?_
  refine lv_icmp_ne hx hb dX12_readMember_285 (tgt := 370) rfl (fun hc => ?_) (fun hc => ?_)
  · replace h := h.2 hc
    exact t_X12_readMember_370 C hr hS hW (hl.keep [true, true, false, false] rfl) h
  · replace h := h.1 hc
    refine x_aload_n C hl dX12_readMember_288 rfl ?_
    refine x_get C hW (t := 12) (k := 13) t1 kl_12 (by decide) fl_X12_44 (v := rv b0 (mR s2 l0 13)) rfl dX12_readMember_289 ?_
    refine x_iload_n C hl dX12_readMember_292 rfl ?_
    refine lv_dup2_11 hx hb dX12_readMember_293 rfl (rv_cat _ _) ?_
    have t4 := h.1
    replace h := h.2
    have v5 := h.1
    replace h := h.2
    refine x_iald C hW t4 v5 dX12_readMember_294 ?_
    refine lv_iconst (v := (4 : Int32)) hx hb dX12_readMember_295 (by decide) ?_
    refine lv_iadd hx hb dX12_readMember_296 ?_
    refine x_iast C hW hS t4 v5 dX12_readMember_297 (fun H locs hW hS => ?_)
    obtain ⟨s6, e_s6⟩ : ∃ z : Mem, z = (sI s2 (mR s2 l0 13) l2.toNatClampNeg ((mI s2 (mR s2 l0 13) l2.toNatClampNeg) + (4 : Int32))) := ⟨_, rfl⟩
    replace h := h s6 e_s6
    replace hW : Wd G D tc b0 s6 H := by rw [e_s6]; exact hW
    refine x_aload_n C hl dX12_readMember_298 rfl ?_
    refine y_v (x_run (As := []) C hW hS (T_X12_advance l l0 s6 _ h) t1 kl_12 (CW.of yv_X12_advance ml_X12_271) ⟨rfl, rfl, ⟨by decide, by decide⟩, by decide, by decide⟩ rfl hl.1 rfl (by decide) dX12_readMember_299) hS (fun s7 H locs h hW hS => ?_)
    refine lv_goto hx hb dX12_readMember_302 (tgt := 370) rfl ?_
    exact t_X12_readMember_370 C hr hS hW (hl.keep [true, true, false, false] rfl) h
set_option maxRecDepth 20000 in
set_option maxHeartbeats 4000000 in
theorem t_X12_readMember_162 {p : Program} {l : Launch} {e : Env} {s : State} {m : MethodId} {args : Array Value} {below : List Frame} {meth : Method} {c : Code} {H : Heap} {locs : List Loc} {D : va_G} {tc : Nat → ClassId} {b0 : Nat} {ls : Array Slot} {G : Lay} {Qx : Int32 → Mem → Prop} {l0 : Nat} {l1 : Int32} {l2 : Int32} {l3 : Int32} {k0 : Nat} {k1 : Int32} {k2 : Int32} {σ : Mem} (C : Cx p s m args meth c cX12_readMember RX12 4 D tc b0) (hr : meth.sig.returnType = (some FieldType.boolean)) (hS : va_S (AA b0) s.heap H locs) (hW : Wd G D tc b0 σ H) (hl : hL b0 ls 4 [some (.inr (.inr l0)), some (.inl l1), some (.inl l2), some (.inl l3)]) (h : X_X12_readMember_162 G Qx l0 l1 l2 l3 k0 k1 k2 σ) : W p l e rm_X12_readMember s m args below meth c H locs 0 0 (MQ below (va_Qi Qx (fun u t => Pw G D tc b0 u t) (AA b0)) args s 0 0 (AA b0)) (F0 m 162 ls [.int k2, .int k1, rv b0 k0]) := by
  have hx := C.1
  have hb := C.2.1
  unfold X_X12_readMember_162 at h
  have t1 := h.1
  replace h := h.2
  have v2 := h.1
  replace h := h.2
  refine x_iast C hW hS t1 v2 dX12_readMember_162 (fun H locs hW hS => ?_)
  obtain ⟨s3, e_s3⟩ : ∃ z : Mem, z = (sI σ k0 k1.toNatClampNeg k2) := ⟨_, rfl⟩
  replace h := h s3 e_s3
  replace hW : Wd G D tc b0 s3 H := by rw [e_s3]; exact hW
  refine x_aload_n C hl dX12_readMember_163 rfl ?_
  have t4 := h.1
  replace h := h.2
  refine y_v (x_run (As := []) C hW hS (T_X12_advance l l0 s3 _ h) t4 kl_12 (CW.of yv_X12_advance ml_X12_271) ⟨rfl, rfl, ⟨by decide, by decide⟩, by decide, by decide⟩ rfl hl.1 rfl (by decide) dX12_readMember_164) hS (fun s5 H locs h hW hS => ?_)
  refine x_aload_n C hl dX12_readMember_167 rfl ?_
  refine y_i (x_run (As := []) C hW hS (T_X12_isName l l0 s5 _ h) t4 kl_12 (CW.of yv_X12_isName ml_X12_319) ⟨rfl, rfl, ⟨by decide, by decide⟩, by decide, by decide⟩ rfl hl.1 rfl (by decide) dX12_readMember_168) hS (fun w7 s6 H locs h hW hS => ?_)
  refine lv_if_ne hx hb dX12_readMember_171 (tgt := 179) rfl (fun hc => ?_) (fun hc => ?_)
  · replace h := h.2 hc
    refine x_aload_n C hl dX12_readMember_179 rfl ?_
    refine x_get C hW (t := 12) (k := 16) t4 kl_12 (by decide) fl_X12_53 (v := rv b0 (mR s6 l0 16)) rfl dX12_readMember_180 ?_
    refine x_iload_n C hl dX12_readMember_183 rfl ?_
    refine x_aload_n C hl dX12_readMember_184 rfl ?_
    refine x_get C hW (t := 12) (k := 52) t4 kl_12 (by decide) fl_X12_246 (v := .long (mJ s6 l0 52)) rfl dX12_readMember_185 ?_
    have t8 := h.1
    replace h := h.2
    have v9 := h.1
    replace h := h.2
    refine x_last C hW hS t8 v9 dX12_readMember_188 (fun H locs hW hS => ?_)
    obtain ⟨s10, e_s10⟩ : ∃ z : Mem, z = (sJ s6 (mR s6 l0 16) l2.toNatClampNeg (mJ s6 l0 52)) := ⟨_, rfl⟩
    replace h := h s10 e_s10
    replace hW : Wd G D tc b0 s10 H := by rw [e_s10]; exact hW
    refine x_aload_n C hl dX12_readMember_189 rfl ?_
    refine x_get C hW (t := 12) (k := 17) t4 kl_12 (by decide) fl_X12_56 (v := rv b0 (mR s10 l0 17)) rfl dX12_readMember_190 ?_
    refine x_iload_n C hl dX12_readMember_193 rfl ?_
    refine x_aload_n C hl dX12_readMember_194 rfl ?_
    refine x_get C hW (t := 12) (k := 49) t4 kl_12 (by decide) fl_X12_237 (v := .int (mI s10 l0 49)) rfl dX12_readMember_195 ?_
    have t11 := h.1
    replace h := h.2
    have v12 := h.1
    replace h := h.2
    refine x_iast C hW hS t11 v12 dX12_readMember_198 (fun H locs hW hS => ?_)
    obtain ⟨s13, e_s13⟩ : ∃ z : Mem, z = (sI s10 (mR s10 l0 17) l2.toNatClampNeg (mI s10 l0 49)) := ⟨_, rfl⟩
    replace h := h s13 e_s13
    replace hW : Wd G D tc b0 s13 H := by rw [e_s13]; exact hW
    refine x_aload_n C hl dX12_readMember_199 rfl ?_
    refine y_v (x_run (As := []) C hW hS (T_X12_advance l l0 s13 _ h) t4 kl_12 (CW.of yv_X12_advance ml_X12_271) ⟨rfl, rfl, ⟨by decide, by decide⟩, by decide, by decide⟩ rfl hl.1 rfl (by decide) dX12_readMember_200) hS (fun s14 H locs h hW hS => ?_)
    refine x_iload_n C hl dX12_readMember_203 rfl ?_
    refine lv_bipush (v := (7 : Int32)) hx hb dX12_readMember_204 (by decide) ?_
    refine lv_icmp_ne hx hb dX12_readMember_206 (tgt := 259) rfl (fun hc => ?_) (fun hc => ?_)
    · replace h := h.2 hc
      refine x_aload_n C hl dX12_readMember_259 rfl ?_
      refine y_i (x_run (As := []) C hW hS (T_X12_toldWord l l0 s14 _ h) t4 kl_12 (CW.of yv_X12_toldWord ml_X12_284) ⟨rfl, rfl, ⟨by decide, by decide⟩, by decide, by decide⟩ rfl hl.1 rfl (by decide) dX12_readMember_260) hS (fun w16 s15 H locs h hW hS => ?_)
      refine lv_bipush (v := (9 : Int32)) hx hb dX12_readMember_263 (by decide) ?_
      refine lv_icmp_ne hx hb dX12_readMember_265 (tgt := 279) rfl (fun hc => ?_) (fun hc => ?_)
      · replace h := h.2 hc
        exact t_X12_readMember_279 C hr hS hW (hl.keep [true, true, true, false] rfl) h
      · replace h := h.1 hc
        refine x_aload_n C hl dX12_readMember_268 rfl ?_
        refine x_get C hW (t := 12) (k := 13) t4 kl_12 (by decide) fl_X12_44 (v := rv b0 (mR s15 l0 13)) rfl dX12_readMember_269 ?_
        refine x_iload_n C hl dX12_readMember_272 rfl ?_
        refine lv_iconst (v := (2 : Int32)) hx hb dX12_readMember_273 (by decide) ?_
        have t17 := h.1
        replace h := h.2
        have v18 := h.1
        replace h := h.2
        refine x_iast C hW hS t17 v18 dX12_readMember_274 (fun H locs hW hS => ?_)
        obtain ⟨s19, e_s19⟩ : ∃ z : Mem, z = (sI s15 (mR s15 l0 13) l2.toNatClampNeg (2 : Int32)) := ⟨_, rfl⟩
        replace h := h s19 e_s19
        replace hW : Wd G D tc b0 s19 H := by rw [e_s19]; exact hW
        refine x_aload_n C hl dX12_readMember_275 rfl ?_
        refine y_v (x_run (As := []) C hW hS (T_X12_advance l l0 s19 _ h) t4 kl_12 (CW.of yv_X12_advance ml_X12_271) ⟨rfl, rfl, ⟨by decide, by decide⟩, by decide, by decide⟩ rfl hl.1 rfl (by decide) dX12_readMember_276) hS (fun s20 H locs h hW hS => ?_)
        exact t_X12_readMember_279 C hr hS hW (hl.keep [true, true, true, false] rfl) h
    · replace h := h.1 hc
      refine x_aload_n C hl dX12_readMember_209 rfl ?_
      refine lv_bipush (v := (8 : Int32)) hx hb dX12_readMember_210 (by decide) ?_
      refine y_i (x_run (As := [.int (8 : Int32)]) C hW hS (T_X12_needsWord l l0 (8 : Int32) s14 _ h) t4 kl_12 (CW.of yv_X12_needsWord ml_X12_297) ⟨rfl, rfl, ⟨by decide, by decide⟩, by decide, by decide⟩ rfl hl.1 rfl (by decide) dX12_readMember_212) hS (fun w22 s21 H locs h hW hS => ?_)
      refine lv_if_ne hx hb dX12_readMember_215 (tgt := 220) rfl (fun hc => ?_) (fun hc => ?_)
      · replace h := h.2 hc
        refine x_aload_n C hl dX12_readMember_220 rfl ?_
        refine y_i (x_run (As := []) C hW hS (T_X12_isName l l0 s21 _ h) t4 kl_12 (CW.of yv_X12_isName ml_X12_319) ⟨rfl, rfl, ⟨by decide, by decide⟩, by decide, by decide⟩ rfl hl.1 rfl (by decide) dX12_readMember_221) hS (fun w24 s23 H locs h hW hS => ?_)
        refine lv_if_ne hx hb dX12_readMember_224 (tgt := 232) rfl (fun hc => ?_) (fun hc => ?_)
        · replace h := h.2 hc
          refine x_aload_n C hl dX12_readMember_232 rfl ?_
          refine x_get C hW (t := 12) (k := 18) t4 kl_12 (by decide) fl_X12_59 (v := rv b0 (mR s23 l0 18)) rfl dX12_readMember_233 ?_
          refine x_iload_n C hl dX12_readMember_236 rfl ?_
          refine x_aload_n C hl dX12_readMember_237 rfl ?_
          refine x_get C hW (t := 12) (k := 52) t4 kl_12 (by decide) fl_X12_246 (v := .long (mJ s23 l0 52)) rfl dX12_readMember_238 ?_
          have t25 := h.1
          replace h := h.2
          have v26 := h.1
          replace h := h.2
          refine x_last C hW hS t25 v26 dX12_readMember_241 (fun H locs hW hS => ?_)
          obtain ⟨s27, e_s27⟩ : ∃ z : Mem, z = (sJ s23 (mR s23 l0 18) l2.toNatClampNeg (mJ s23 l0 52)) := ⟨_, rfl⟩
          replace h := h s27 e_s27
          replace hW : Wd G D tc b0 s27 H := by rw [e_s27]; exact hW
          refine x_aload_n C hl dX12_readMember_242 rfl ?_
          refine x_get C hW (t := 12) (k := 19) t4 kl_12 (by decide) fl_X12_62 (v := rv b0 (mR s27 l0 19)) rfl dX12_readMember_243 ?_
          refine x_iload_n C hl dX12_readMember_246 rfl ?_
          refine x_aload_n C hl dX12_readMember_247 rfl ?_
          refine x_get C hW (t := 12) (k := 49) t4 kl_12 (by decide) fl_X12_237 (v := .int (mI s27 l0 49)) rfl dX12_readMember_248 ?_
          have t28 := h.1
          replace h := h.2
          have v29 := h.1
          replace h := h.2
          refine x_iast C hW hS t28 v29 dX12_readMember_251 (fun H locs hW hS => ?_)
          obtain ⟨s30, e_s30⟩ : ∃ z : Mem, z = (sI s27 (mR s27 l0 19) l2.toNatClampNeg (mI s27 l0 49)) := ⟨_, rfl⟩
          replace h := h s30 e_s30
          replace hW : Wd G D tc b0 s30 H := by rw [e_s30]; exact hW
          refine x_aload_n C hl dX12_readMember_252 rfl ?_
          refine y_v (x_run (As := []) C hW hS (T_X12_advance l l0 s30 _ h) t4 kl_12 (CW.of yv_X12_advance ml_X12_271) ⟨rfl, rfl, ⟨by decide, by decide⟩, by decide, by decide⟩ rfl hl.1 rfl (by decide) dX12_readMember_253) hS (fun s31 H locs h hW hS => ?_)
          refine lv_goto hx hb dX12_readMember_256 (tgt := 279) rfl ?_
          exact t_X12_readMember_279 C hr hS hW (hl.keep [true, true, true, false] rfl) h
        · replace h := h.1 hc
          refine x_aload_n C hl dX12_readMember_227 rfl ?_
          refine y_i (x_run (As := []) C hW hS (T_X12_wrong l l0 s23 _ h) t4 kl_12 (CW.of yv_X12_wrong ml_X12_267) ⟨rfl, rfl, ⟨by decide, by decide⟩, by decide, by decide⟩ rfl hl.1 rfl (by decide) dX12_readMember_228) hS (fun w33 s32 H locs h hW hS => ?_)
          exact r_z C hr hW hS h.1 h.2 dX12_readMember_231
      · replace h := h.1 hc
        refine lv_iconst (v := (0 : Int32)) hx hb dX12_readMember_218 (by decide) ?_
        exact r_z C hr hW hS h.1 h.2 dX12_readMember_219
  · replace h := h.1 hc
    refine x_aload_n C hl dX12_readMember_174 rfl ?_
    refine y_i (x_run (As := []) C hW hS (T_X12_wrong l l0 s6 _ h) t4 kl_12 (CW.of yv_X12_wrong ml_X12_267) ⟨rfl, rfl, ⟨by decide, by decide⟩, by decide, by decide⟩ rfl hl.1 rfl (by decide) dX12_readMember_175) hS (fun w35 s34 H locs h hW hS => ?_)
    exact r_z C hr hW hS h.1 h.2 dX12_readMember_178
set_option maxRecDepth 20000 in
set_option maxHeartbeats 4000000 in
theorem t_X12_readMember_146 {p : Program} {l : Launch} {e : Env} {s : State} {m : MethodId} {args : Array Value} {below : List Frame} {meth : Method} {c : Code} {H : Heap} {locs : List Loc} {D : va_G} {tc : Nat → ClassId} {b0 : Nat} {ls : Array Slot} {G : Lay} {Qx : Int32 → Mem → Prop} {l0 : Nat} {l1 : Int32} {l2 : Int32} {l3 : Int32}  {σ : Mem} (C : Cx p s m args meth c cX12_readMember RX12 4 D tc b0) (hr : meth.sig.returnType = (some FieldType.boolean)) (hS : va_S (AA b0) s.heap H locs) (hW : Wd G D tc b0 σ H) (hl : hL b0 ls 4 [some (.inr (.inr l0)), some (.inl l1), some (.inl l2), some (.inl l3)]) (h : X_X12_readMember_146 G Qx l0 l1 l2 l3  σ) : W p l e rm_X12_readMember s m args below meth c H locs 0 0 (MQ below (va_Qi Qx (fun u t => Pw G D tc b0 u t) (AA b0)) args s 0 0 (AA b0)) (F0 m 146 ls []) := by
  have hx := C.1
  have hb := C.2.1
  unfold X_X12_readMember_146 at h
  refine x_aload_n C hl dX12_readMember_146 rfl ?_
  have t1 := h.1
  replace h := h.2
  refine x_get C hW (t := 12) (k := 9) t1 kl_12 (by decide) fl_X12_32 (v := rv b0 (mR σ l0 9)) rfl dX12_readMember_147 ?_
  refine x_iload_n C hl dX12_readMember_150 rfl ?_
  refine x_iload_n C hl dX12_readMember_151 rfl ?_
  refine lv_bipush (v := (6 : Int32)) hx hb dX12_readMember_152 (by decide) ?_
  refine lv_icmp_ne hx hb dX12_readMember_154 (tgt := 161) rfl (fun hc => ?_) (fun hc => ?_)
  · replace h := h.2 hc
    refine lv_iconst (v := (5 : Int32)) hx hb dX12_readMember_161 (by decide) ?_
    exact t_X12_readMember_162 C hr hS hW (hl.keep [true, true, true, true] rfl) h
  · replace h := h.1 hc
    refine lv_iconst (v := (4 : Int32)) hx hb dX12_readMember_157 (by decide) ?_
    refine lv_goto hx hb dX12_readMember_158 (tgt := 162) rfl ?_
    exact t_X12_readMember_162 C hr hS hW (hl.keep [true, true, true, true] rfl) h
set_option maxRecDepth 20000 in
set_option maxHeartbeats 4000000 in
theorem t_X12_readMember_350 {p : Program} {l : Launch} {e : Env} {s : State} {m : MethodId} {args : Array Value} {below : List Frame} {meth : Method} {c : Code} {H : Heap} {locs : List Loc} {D : va_G} {tc : Nat → ClassId} {b0 : Nat} {ls : Array Slot} {G : Lay} {Qx : Int32 → Mem → Prop} {l0 : Nat} {l1 : Int32} {l2 : Int32}  {σ : Mem} (C : Cx p s m args meth c cX12_readMember RX12 4 D tc b0) (hr : meth.sig.returnType = (some FieldType.boolean)) (hS : va_S (AA b0) s.heap H locs) (hW : Wd G D tc b0 σ H) (hl : hL b0 ls 4 [some (.inr (.inr l0)), some (.inl l1), some (.inl l2), none]) (h : X_X12_readMember_350 G Qx l0 l1 l2  σ) : W p l e rm_X12_readMember s m args below meth c H locs 0 0 (MQ below (va_Qi Qx (fun u t => Pw G D tc b0 u t) (AA b0)) args s 0 0 (AA b0)) (F0 m 350 ls []) := by
  have hx := C.1
  have hb := C.2.1
  unfold X_X12_readMember_350 at h
  refine x_aload_n C hl dX12_readMember_350 rfl ?_
  have t1 := h.1
  replace h := h.2
  refine y_i (x_run (As := []) C hW hS (T_X12_toldWord l l0 σ _ h) t1 kl_12 (CW.of yv_X12_toldWord ml_X12_284) ⟨rfl, rfl, ⟨by decide, by decide⟩, by decide, by decide⟩ rfl hl.1 rfl (by decide) dX12_readMember_351) hS (fun w3 s2 H locs h hW hS => ?_)
  refine lv_bipush (v := (11 : Int32)) hx hb dX12_readMember_354 (by decide) ?_
  refine lv_icmp_ne hx hb dX12_readMember_356 (tgt := 370) rfl (fun hc => ?_) (fun hc => ?_)
  · replace h := h.2 hc
    exact t_X12_readMember_370 C hr hS hW (hl.keep [true, true, false, false] rfl) h
  · replace h := h.1 hc
    refine x_aload_n C hl dX12_readMember_359 rfl ?_
    refine x_get C hW (t := 12) (k := 13) t1 kl_12 (by decide) fl_X12_44 (v := rv b0 (mR s2 l0 13)) rfl dX12_readMember_360 ?_
    refine x_iload_n C hl dX12_readMember_363 rfl ?_
    refine lv_iconst (v := (1 : Int32)) hx hb dX12_readMember_364 (by decide) ?_
    have t4 := h.1
    replace h := h.2
    have v5 := h.1
    replace h := h.2
    refine x_iast C hW hS t4 v5 dX12_readMember_365 (fun H locs hW hS => ?_)
    obtain ⟨s6, e_s6⟩ : ∃ z : Mem, z = (sI s2 (mR s2 l0 13) l2.toNatClampNeg (1 : Int32)) := ⟨_, rfl⟩
    replace h := h s6 e_s6
    replace hW : Wd G D tc b0 s6 H := by rw [e_s6]; exact hW
    refine x_aload_n C hl dX12_readMember_366 rfl ?_
    refine y_v (x_run (As := []) C hW hS (T_X12_advance l l0 s6 _ h) t1 kl_12 (CW.of yv_X12_advance ml_X12_271) ⟨rfl, rfl, ⟨by decide, by decide⟩, by decide, by decide⟩ rfl hl.1 rfl (by decide) dX12_readMember_367) hS (fun s7 H locs h hW hS => ?_)
    exact t_X12_readMember_370 C hr hS hW (hl.keep [true, true, false, false] rfl) h
set_option maxRecDepth 20000 in
set_option maxHeartbeats 4000000 in
theorem t_X12_readMember_323 {p : Program} {l : Launch} {e : Env} {s : State} {m : MethodId} {args : Array Value} {below : List Frame} {meth : Method} {c : Code} {H : Heap} {locs : List Loc} {D : va_G} {tc : Nat → ClassId} {b0 : Nat} {ls : Array Slot} {G : Lay} {Qx : Int32 → Mem → Prop} {l0 : Nat} {l1 : Int32} {l2 : Int32} {l3 : Int32}  {σ : Mem} (C : Cx p s m args meth c cX12_readMember RX12 4 D tc b0) (hr : meth.sig.returnType = (some FieldType.boolean)) (hS : va_S (AA b0) s.heap H locs) (hW : Wd G D tc b0 σ H) (hl : hL b0 ls 4 [some (.inr (.inr l0)), some (.inl l1), some (.inl l2), some (.inl l3)]) (h : X_X12_readMember_323 G Qx l0 l1 l2 l3  σ) : W p l e rm_X12_readMember s m args below meth c H locs 0 0 (MQ below (va_Qi Qx (fun u t => Pw G D tc b0 u t) (AA b0)) args s 0 0 (AA b0)) (F0 m 323 ls []) := by
  have hx := C.1
  have hb := C.2.1
  unfold X_X12_readMember_323 at h
  refine x_aload_n C hl dX12_readMember_323 rfl ?_
  have t1 := h.1
  replace h := h.2
  refine x_get C hW (t := 12) (k := 9) t1 kl_12 (by decide) fl_X12_32 (v := rv b0 (mR σ l0 9)) rfl dX12_readMember_324 ?_
  refine x_iload_n C hl dX12_readMember_327 rfl ?_
  refine x_iload_n C hl dX12_readMember_328 rfl ?_
  refine lv_bipush (v := (12 : Int32)) hx hb dX12_readMember_329 (by decide) ?_
  refine lv_isub hx hb dX12_readMember_331 ?_
  have t2 := h.1
  replace h := h.2
  have v3 := h.1
  replace h := h.2
  refine x_iast C hW hS t2 v3 dX12_readMember_332 (fun H locs hW hS => ?_)
  obtain ⟨s4, e_s4⟩ : ∃ z : Mem, z = (sI σ (mR σ l0 9) l2.toNatClampNeg (l3 - (12 : Int32))) := ⟨_, rfl⟩
  replace h := h s4 e_s4
  replace hW : Wd G D tc b0 s4 H := by rw [e_s4]; exact hW
  refine x_aload_n C hl dX12_readMember_333 rfl ?_
  refine y_v (x_run (As := []) C hW hS (T_X12_advance l l0 s4 _ h) t1 kl_12 (CW.of yv_X12_advance ml_X12_271) ⟨rfl, rfl, ⟨by decide, by decide⟩, by decide, by decide⟩ rfl hl.1 rfl (by decide) dX12_readMember_334) hS (fun s5 H locs h hW hS => ?_)
  refine lv_goto hx hb dX12_readMember_337 (tgt := 350) rfl ?_
  exact t_X12_readMember_350 C hr hS hW (hl.keep [true, true, true, false] rfl) h
set_option maxRecDepth 20000 in
set_option maxHeartbeats 4000000 in
theorem t_X12_readMember_0 {p : Program} {l : Launch} {e : Env} {s : State} {m : MethodId} {args : Array Value} {below : List Frame} {meth : Method} {c : Code} {H : Heap} {locs : List Loc} {D : va_G} {tc : Nat → ClassId} {b0 : Nat} {ls : Array Slot} {G : Lay} {Qx : Int32 → Mem → Prop} {l0 : Nat} {l1 : Int32}  {σ : Mem} (C : Cx p s m args meth c cX12_readMember RX12 4 D tc b0) (hr : meth.sig.returnType = (some FieldType.boolean)) (hS : va_S (AA b0) s.heap H locs) (hW : Wd G D tc b0 σ H) (hl : hL b0 ls 4 [some (.inr (.inr l0)), some (.inl l1), none, none]) (h : X_X12_readMember_0 G Qx l0 l1  σ) : W p l e rm_X12_readMember s m args below meth c H locs 0 0 (MQ below (va_Qi Qx (fun u t => Pw G D tc b0 u t) (AA b0)) args s 0 0 (AA b0)) (F0 m 0 ls []) := by
  have hx := C.1
  have hb := C.2.1
  unfold X_X12_readMember_0 at h
  refine x_aload_n C hl dX12_readMember_0 rfl ?_
  have t1 := h.1
  replace h := h.2
  refine y_i (x_run (As := []) C hW hS (T_X12_isName l l0 σ _ h) t1 kl_12 (CW.of yv_X12_isName ml_X12_319) ⟨rfl, rfl, ⟨by decide, by decide⟩, by decide, by decide⟩ rfl hl.1 rfl (by decide) dX12_readMember_1) hS (fun w3 s2 H locs h hW hS => ?_)
  refine lv_if_ne hx hb dX12_readMember_4 (tgt := 12) rfl (fun hc => ?_) (fun hc => ?_)
  · replace h := h.2 hc
    refine x_aload_n C hl dX12_readMember_12 rfl ?_
    refine x_iload_n C hl dX12_readMember_13 rfl ?_
    refine x_aload_n C hl dX12_readMember_14 rfl ?_
    refine x_get C hW (t := 12) (k := 52) t1 kl_12 (by decide) fl_X12_246 (v := .long (mJ s2 l0 52)) rfl dX12_readMember_15 ?_
    refine y_i (x_run (As := [.int l1, .long (mJ s2 l0 52)]) C hW hS (T_X12_memberNamed l l0 l1 (mJ s2 l0 52) s2 _ h) t1 kl_12 (CW.of yv_X12_memberNamed ml_X12_311) ⟨rfl, rfl, ⟨by decide, by decide⟩, by decide, by decide⟩ rfl hl.1 rfl (by decide) dX12_readMember_18) hS (fun w5 s4 H locs h hW hS => ?_)
    refine lv_if_lt hx hb dX12_readMember_21 (tgt := 30) rfl (fun hc => ?_) (fun hc => ?_)
    · replace h := h.1 hc
      refine x_aload_n C hl dX12_readMember_30 rfl ?_
      refine x_get C hW (t := 12) (k := 6) t1 kl_12 (by decide) fl_X12_23 (v := rv b0 (mR s4 l0 6)) rfl dX12_readMember_31 ?_
      refine x_iload_n C hl dX12_readMember_34 rfl ?_
      have t6 := h.1
      replace h := h.2
      have v7 := h.1
      replace h := h.2
      refine x_iald C hW t6 v7 dX12_readMember_35 ?_
      refine lv_bipush (v := (16 : Int32)) hx hb dX12_readMember_36 (by decide) ?_
      refine lv_icmp_ne hx hb dX12_readMember_38 (tgt := 47) rfl (fun hc => ?_) (fun hc => ?_)
      · replace h := h.2 hc
        refine lv_bipush (v := (16 : Int32)) hx hb dX12_readMember_47 (by decide) ?_
        refine x_iload_n C hl dX12_readMember_49 rfl ?_
        refine lv_imul hx hb dX12_readMember_50 ?_
        refine x_aload_n C hl dX12_readMember_51 rfl ?_
        refine x_get C hW (t := 12) (k := 6) t1 kl_12 (by decide) fl_X12_23 (v := rv b0 (mR s4 l0 6)) rfl dX12_readMember_52 ?_
        refine x_iload_n C hl dX12_readMember_55 rfl ?_
        refine x_iald C hW t6 v7 dX12_readMember_56 ?_
        refine lv_iadd hx hb dX12_readMember_57 ?_
        refine x_istore_n C hl dX12_readMember_58 (by decide) rfl (fun ls hl => ?_)
        refine x_aload_n C hl dX12_readMember_59 rfl ?_
        refine x_get C hW (t := 12) (k := 8) t1 kl_12 (by decide) fl_X12_29 (v := rv b0 (mR s4 l0 8)) rfl dX12_readMember_60 ?_
        refine x_iload_n C hl dX12_readMember_63 rfl ?_
        refine x_aload_n C hl dX12_readMember_64 rfl ?_
        refine x_get C hW (t := 12) (k := 52) t1 kl_12 (by decide) fl_X12_246 (v := .long (mJ s4 l0 52)) rfl dX12_readMember_65 ?_
        have t8 := h.1
        replace h := h.2
        have v9 := h.1
        replace h := h.2
        refine x_last C hW hS t8 v9 dX12_readMember_68 (fun H locs hW hS => ?_)
        obtain ⟨s10, e_s10⟩ : ∃ z : Mem, z = (sJ s4 (mR s4 l0 8) (((16 : Int32) * l1) + (mI s4 (mR s4 l0 6) l1.toNatClampNeg)).toNatClampNeg (mJ s4 l0 52)) := ⟨_, rfl⟩
        replace h := h s10 e_s10
        replace hW : Wd G D tc b0 s10 H := by rw [e_s10]; exact hW
        refine x_aload_n C hl dX12_readMember_69 rfl ?_
        refine x_get C hW (t := 12) (k := 13) t1 kl_12 (by decide) fl_X12_44 (v := rv b0 (mR s10 l0 13)) rfl dX12_readMember_70 ?_
        refine x_iload_n C hl dX12_readMember_73 rfl ?_
        refine lv_iconst (v := (0 : Int32)) hx hb dX12_readMember_74 (by decide) ?_
        have t11 := h.1
        replace h := h.2
        have v12 := h.1
        replace h := h.2
        refine x_iast C hW hS t11 v12 dX12_readMember_75 (fun H locs hW hS => ?_)
        obtain ⟨s13, e_s13⟩ : ∃ z : Mem, z = (sI s10 (mR s10 l0 13) (((16 : Int32) * l1) + (mI s4 (mR s4 l0 6) l1.toNatClampNeg)).toNatClampNeg (0 : Int32)) := ⟨_, rfl⟩
        replace h := h s13 e_s13
        replace hW : Wd G D tc b0 s13 H := by rw [e_s13]; exact hW
        refine x_aload_n C hl dX12_readMember_76 rfl ?_
        refine x_get C hW (t := 12) (k := 12) t1 kl_12 (by decide) fl_X12_41 (v := rv b0 (mR s13 l0 12)) rfl dX12_readMember_77 ?_
        refine x_iload_n C hl dX12_readMember_80 rfl ?_
        refine lv_iconst (v := (0 : Int32)) hx hb dX12_readMember_81 (by decide) ?_
        have t14 := h.1
        replace h := h.2
        have v15 := h.1
        replace h := h.2
        refine x_iast C hW hS t14 v15 dX12_readMember_82 (fun H locs hW hS => ?_)
        obtain ⟨s16, e_s16⟩ : ∃ z : Mem, z = (sI s13 (mR s13 l0 12) (((16 : Int32) * l1) + (mI s4 (mR s4 l0 6) l1.toNatClampNeg)).toNatClampNeg (0 : Int32)) := ⟨_, rfl⟩
        replace h := h s16 e_s16
        replace hW : Wd G D tc b0 s16 H := by rw [e_s16]; exact hW
        refine x_aload_n C hl dX12_readMember_83 rfl ?_
        refine x_get C hW (t := 12) (k := 11) t1 kl_12 (by decide) fl_X12_38 (v := rv b0 (mR s16 l0 11)) rfl dX12_readMember_84 ?_
        refine x_iload_n C hl dX12_readMember_87 rfl ?_
        refine lv_iconst (v := (0 : Int32)) hx hb dX12_readMember_88 (by decide) ?_
        have t17 := h.1
        replace h := h.2
        have v18 := h.1
        replace h := h.2
        refine x_iast C hW hS t17 v18 dX12_readMember_89 (fun H locs hW hS => ?_)
        obtain ⟨s19, e_s19⟩ : ∃ z : Mem, z = (sI s16 (mR s16 l0 11) (((16 : Int32) * l1) + (mI s4 (mR s4 l0 6) l1.toNatClampNeg)).toNatClampNeg (0 : Int32)) := ⟨_, rfl⟩
        replace h := h s19 e_s19
        replace hW : Wd G D tc b0 s19 H := by rw [e_s19]; exact hW
        refine x_aload_n C hl dX12_readMember_90 rfl ?_
        refine x_get C hW (t := 12) (k := 10) t1 kl_12 (by decide) fl_X12_35 (v := rv b0 (mR s19 l0 10)) rfl dX12_readMember_91 ?_
        refine x_iload_n C hl dX12_readMember_94 rfl ?_
        refine lv_iconst (v := (0 : Int32)) hx hb dX12_readMember_95 (by decide) ?_
        have t20 := h.1
        replace h := h.2
        have v21 := h.1
        replace h := h.2
        refine x_iast C hW hS t20 v21 dX12_readMember_96 (fun H locs hW hS => ?_)
        obtain ⟨s22, e_s22⟩ : ∃ z : Mem, z = (sI s19 (mR s19 l0 10) (((16 : Int32) * l1) + (mI s4 (mR s4 l0 6) l1.toNatClampNeg)).toNatClampNeg (0 : Int32)) := ⟨_, rfl⟩
        replace h := h s22 e_s22
        replace hW : Wd G D tc b0 s22 H := by rw [e_s22]; exact hW
        refine x_aload_n C hl dX12_readMember_97 rfl ?_
        refine x_get C hW (t := 12) (k := 14) t1 kl_12 (by decide) fl_X12_47 (v := rv b0 (mR s22 l0 14)) rfl dX12_readMember_98 ?_
        refine x_iload_n C hl dX12_readMember_101 rfl ?_
        refine lv_iconst (v := (0 : Int32)) hx hb dX12_readMember_102 (by decide) ?_
        have t23 := h.1
        replace h := h.2
        have v24 := h.1
        replace h := h.2
        refine x_iast C hW hS t23 v24 dX12_readMember_103 (fun H locs hW hS => ?_)
        obtain ⟨s25, e_s25⟩ : ∃ z : Mem, z = (sI s22 (mR s22 l0 14) (((16 : Int32) * l1) + (mI s4 (mR s4 l0 6) l1.toNatClampNeg)).toNatClampNeg (0 : Int32)) := ⟨_, rfl⟩
        replace h := h s25 e_s25
        replace hW : Wd G D tc b0 s25 H := by rw [e_s25]; exact hW
        refine x_aload_n C hl dX12_readMember_104 rfl ?_
        refine x_get C hW (t := 12) (k := 15) t1 kl_12 (by decide) fl_X12_50 (v := rv b0 (mR s25 l0 15)) rfl dX12_readMember_105 ?_
        refine x_iload_n C hl dX12_readMember_108 rfl ?_
        refine x_iload_n C hl dX12_readMember_109 rfl ?_
        refine lv_bipush (v := (13 : Int32)) hx hb dX12_readMember_110 (by decide) ?_
        refine lv_isub hx hb dX12_readMember_112 ?_
        have t26 := h.1
        replace h := h.2
        have v27 := h.1
        replace h := h.2
        refine x_iast C hW hS t26 v27 dX12_readMember_113 (fun H locs hW hS => ?_)
        obtain ⟨s28, e_s28⟩ : ∃ z : Mem, z = (sI s25 (mR s25 l0 15) (((16 : Int32) * l1) + (mI s4 (mR s4 l0 6) l1.toNatClampNeg)).toNatClampNeg (l1 - (13 : Int32))) := ⟨_, rfl⟩
        replace h := h s28 e_s28
        replace hW : Wd G D tc b0 s28 H := by rw [e_s28]; exact hW
        refine x_aload_n C hl dX12_readMember_114 rfl ?_
        refine y_v (x_run (As := []) C hW hS (T_X12_advance l l0 s28 _ h) t1 kl_12 (CW.of yv_X12_advance ml_X12_271) ⟨rfl, rfl, ⟨by decide, by decide⟩, by decide, by decide⟩ rfl hl.1 rfl (by decide) dX12_readMember_115) hS (fun s29 H locs h hW hS => ?_)
        refine x_aload_n C hl dX12_readMember_118 rfl ?_
        refine lv_bipush (v := (58 : Int32)) hx hb dX12_readMember_119 (by decide) ?_
        refine y_i (x_run (As := [.int (58 : Int32)]) C hW hS (T_X12_needs l l0 (58 : Int32) s29 _ h) t1 kl_12 (CW.of yv_X12_needs ml_X12_326) ⟨rfl, rfl, ⟨by decide, by decide⟩, by decide, by decide⟩ rfl hl.1 rfl (by decide) dX12_readMember_121) hS (fun w31 s30 H locs h hW hS => ?_)
        refine lv_if_ne hx hb dX12_readMember_124 (tgt := 129) rfl (fun hc => ?_) (fun hc => ?_)
        · replace h := h.2 hc
          refine x_aload_n C hl dX12_readMember_129 rfl ?_
          refine y_i (x_run (As := []) C hW hS (T_X12_toldWord l l0 s30 _ h) t1 kl_12 (CW.of yv_X12_toldWord ml_X12_284) ⟨rfl, rfl, ⟨by decide, by decide⟩, by decide, by decide⟩ rfl hl.1 rfl (by decide) dX12_readMember_130) hS (fun w33 s32 H locs h hW hS => ?_)
          refine x_istore_n C hl dX12_readMember_133 (by decide) rfl (fun ls hl => ?_)
          refine x_iload_n C hl dX12_readMember_134 rfl ?_
          refine lv_bipush (v := (6 : Int32)) hx hb dX12_readMember_135 (by decide) ?_
          refine lv_icmp_eq hx hb dX12_readMember_137 (tgt := 146) rfl (fun hc => ?_) (fun hc => ?_)
          · replace h := h.1 hc
            exact t_X12_readMember_146 C hr hS hW (hl.keep [true, true, true, true] rfl) h
          · replace h := h.2 hc
            refine x_iload_n C hl dX12_readMember_140 rfl ?_
            refine lv_bipush (v := (7 : Int32)) hx hb dX12_readMember_141 (by decide) ?_
            refine lv_icmp_ne hx hb dX12_readMember_143 (tgt := 305) rfl (fun hc => ?_) (fun hc => ?_)
            · replace h := h.2 hc
              refine x_iload_n C hl dX12_readMember_305 rfl ?_
              refine lv_bipush (v := (12 : Int32)) hx hb dX12_readMember_306 (by decide) ?_
              refine lv_icmp_eq hx hb dX12_readMember_308 (tgt := 323) rfl (fun hc => ?_) (fun hc => ?_)
              · replace h := h.1 hc
                exact t_X12_readMember_323 C hr hS hW (hl.keep [true, true, true, true] rfl) h
              · replace h := h.2 hc
                refine x_iload_n C hl dX12_readMember_311 rfl ?_
                refine lv_bipush (v := (13 : Int32)) hx hb dX12_readMember_312 (by decide) ?_
                refine lv_icmp_eq hx hb dX12_readMember_314 (tgt := 323) rfl (fun hc => ?_) (fun hc => ?_)
                · replace h := h.1 hc
                  exact t_X12_readMember_323 C hr hS hW (hl.keep [true, true, true, true] rfl) h
                · replace h := h.2 hc
                  refine x_iload_n C hl dX12_readMember_317 rfl ?_
                  refine lv_bipush (v := (14 : Int32)) hx hb dX12_readMember_318 (by decide) ?_
                  refine lv_icmp_ne hx hb dX12_readMember_320 (tgt := 340) rfl (fun hc => ?_) (fun hc => ?_)
                  · replace h := h.2 hc
                    refine x_aload_n C hl dX12_readMember_340 rfl ?_
                    refine x_iload_n C hl dX12_readMember_341 rfl ?_
                    refine y_i (x_run (As := [.int (((16 : Int32) * l1) + (mI s4 (mR s4 l0 6) l1.toNatClampNeg))]) C hW hS (T_X12_readNames l l0 (((16 : Int32) * l1) + (mI s4 (mR s4 l0 6) l1.toNatClampNeg)) s32 _ h) t1 kl_12 (CW.of yv_X12_readNames ml_X12_335) ⟨rfl, rfl, ⟨by decide, by decide⟩, by decide, by decide⟩ rfl hl.1 rfl (by decide) dX12_readMember_342) hS (fun w35 s34 H locs h hW hS => ?_)
                    refine lv_if_ne hx hb dX12_readMember_345 (tgt := 350) rfl (fun hc => ?_) (fun hc => ?_)
                    · replace h := h.2 hc
                      exact t_X12_readMember_350 C hr hS hW (hl.keep [true, true, true, false] rfl) h
                    · replace h := h.1 hc
                      refine lv_iconst (v := (0 : Int32)) hx hb dX12_readMember_348 (by decide) ?_
                      exact r_z C hr hW hS h.1 h.2 dX12_readMember_349
                  · replace h := h.1 hc
                    exact t_X12_readMember_323 C hr hS hW (hl.keep [true, true, true, true] rfl) h
            · replace h := h.1 hc
              exact t_X12_readMember_146 C hr hS hW (hl.keep [true, true, true, true] rfl) h
        · replace h := h.1 hc
          refine lv_iconst (v := (0 : Int32)) hx hb dX12_readMember_127 (by decide) ?_
          exact r_z C hr hW hS h.1 h.2 dX12_readMember_128
      · replace h := h.1 hc
        refine x_aload_n C hl dX12_readMember_41 rfl ?_
        refine lv_iconst (v := (4 : Int32)) hx hb dX12_readMember_42 (by decide) ?_
        refine y_i (x_run (As := [.int (4 : Int32)]) C hW hS (T_X12_fails l l0 (4 : Int32) s4 _ h) t1 kl_12 (CW.of yv_X12_fails ml_X12_261) ⟨rfl, rfl, ⟨by decide, by decide⟩, by decide, by decide⟩ rfl hl.1 rfl (by decide) dX12_readMember_43) hS (fun w37 s36 H locs h hW hS => ?_)
        exact r_z C hr hW hS h.1 h.2 dX12_readMember_46
    · replace h := h.2 hc
      refine x_aload_n C hl dX12_readMember_24 rfl ?_
      refine lv_iconst (v := (3 : Int32)) hx hb dX12_readMember_25 (by decide) ?_
      refine y_i (x_run (As := [.int (3 : Int32)]) C hW hS (T_X12_fails l l0 (3 : Int32) s4 _ h) t1 kl_12 (CW.of yv_X12_fails ml_X12_261) ⟨rfl, rfl, ⟨by decide, by decide⟩, by decide, by decide⟩ rfl hl.1 rfl (by decide) dX12_readMember_26) hS (fun w39 s38 H locs h hW hS => ?_)
      exact r_z C hr hW hS h.1 h.2 dX12_readMember_29
  · replace h := h.1 hc
    refine x_aload_n C hl dX12_readMember_7 rfl ?_
    refine y_i (x_run (As := []) C hW hS (T_X12_wrong l l0 s2 _ h) t1 kl_12 (CW.of yv_X12_wrong ml_X12_267) ⟨rfl, rfl, ⟨by decide, by decide⟩, by decide, by decide⟩ rfl hl.1 rfl (by decide) dX12_readMember_8) hS (fun w41 s40 H locs h hW hS => ?_)
    exact r_z C hr hW hS h.1 h.2 dX12_readMember_11
theorem T_X12_readMember (l : Launch) {G : Lay} {D : va_G} {tc : Nat → ClassId} {b0 : Nat} (l0 : Nat) (l1 : Int32) (σ : Mem) (Qx : Int32 → Mem → Prop) (h : X_X12_readMember G Qx l0 l1 σ) : MI l yX12_readMember cX12_readMember 4 ((some FieldType.boolean)) rm_X12_readMember G D tc b0 [rv b0 l0, .int l1] σ Qx :=
  x_entry (y := yX12_readMember) [.inr (.inr l0), .inl l1] 2 (by decide) (Nat.le_of_ble_eq_true rfl) (fun p e s m args below meth c ls C hr hW hl => t_X12_readMember_0 C hr va_S.rf hW (hl.keep [true, true, false, false] rfl) h)
/-! X12_readClass -/
set_option maxRecDepth 20000 in
set_option maxHeartbeats 4000000 in
theorem t_X12_readClass_329 {p : Program} {l : Launch} {e : Env} {s : State} {m : MethodId} {args : Array Value} {below : List Frame} {meth : Method} {c : Code} {H : Heap} {locs : List Loc} {D : va_G} {tc : Nat → ClassId} {b0 : Nat} {ls : Array Slot} {G : Lay} {Qx : Int32 → Mem → Prop}   {σ : Mem} (C : Cx p s m args meth c cX12_readClass RX12 4 D tc b0) (hr : meth.sig.returnType = (some FieldType.boolean)) (hS : va_S (AA b0) s.heap H locs) (hW : Wd G D tc b0 σ H) (hl : hL b0 ls 4 [none, none, none, none]) (h : X_X12_readClass_329 G Qx   σ) : W p l e rm_X12_readClass s m args below meth c H locs 0 0 (MQ below (va_Qi Qx (fun u t => Pw G D tc b0 u t) (AA b0)) args s 0 0 (AA b0)) (F0 m 329 ls []) := by
  have hx := C.1
  have hb := C.2.1
  unfold X_X12_readClass_329 at h
  refine lv_iconst (v := (0 : Int32)) hx hb dX12_readClass_329 (by decide) ?_
  exact r_z C hr hW hS h.1 h.2 dX12_readClass_330
set_option maxRecDepth 20000 in
set_option maxHeartbeats 4000000 in
theorem t_X12_readClass_292_n {p : Program} {l : Launch} {e : Env} {s : State} {m : MethodId} {args : Array Value} {below : List Frame} {meth : Method} {c : Code} {D : va_G} {tc : Nat → ClassId} {b0 : Nat} {G : Lay} {Qx : Int32 → Mem → Prop} {l0 : Nat} {l1 : Int32} (C : Cx p s m args meth c cX12_readClass RX12 4 D tc b0) (hr : meth.sig.returnType = (some FieldType.boolean)) (n : Nat) : ∀  (σ : Mem) (H : Heap) (locs : List Loc) (ls : Array Slot), va_S (AA b0) s.heap H locs → Wd G D tc b0 σ H → hL b0 ls 4 [some (.inr (.inr l0)), some (.inl l1), none, none] → Lp (X_X12_readClass_292_s G Qx l0 l1) n (σ) → W p l e rm_X12_readClass s m args below meth c H locs 0 0 (MQ below (va_Qi Qx (fun u t => Pw G D tc b0 u t) (AA b0)) args s 0 0 (AA b0)) (F0 m 292 ls []) := by
  have hx := C.1
  have hb := C.2.1
  induction n with
  | zero => intro  σ H locs ls hS hW hl h; exact False.elim h
  | succ n hK292 =>
    intro  σ H locs ls hS hW hl h
    replace h : X_X12_readClass_292_s G Qx l0 l1 (Lp (X_X12_readClass_292_s G Qx l0 l1) n) (σ) := h
    unfold X_X12_readClass_292_s at h
    refine x_aload_n C hl dX12_readClass_292 rfl ?_
    refine lv_bipush (v := (125 : Int32)) hx hb dX12_readClass_293 (by decide) ?_
    have t1 := h.1
    replace h := h.2
    refine y_i (x_run (As := [.int (125 : Int32)]) C hW hS (T_X12_is l l0 (125 : Int32) σ _ h) t1 kl_12 (CW.of yv_X12_is ml_X12_264) ⟨rfl, rfl, ⟨by decide, by decide⟩, by decide, by decide⟩ rfl hl.1 rfl (by decide) dX12_readClass_295) hS (fun w3 s2 H locs h hW hS => ?_)
    refine lv_if_ne hx hb dX12_readClass_298 (tgt := 331) rfl (fun hc => ?_) (fun hc => ?_)
    · replace h := h.2 hc
      refine x_aload_n C hl dX12_readClass_331 rfl ?_
      refine y_v (x_run (As := []) C hW hS (T_X12_advance l l0 s2 _ h) t1 kl_12 (CW.of yv_X12_advance ml_X12_271) ⟨rfl, rfl, ⟨by decide, by decide⟩, by decide, by decide⟩ rfl hl.1 rfl (by decide) dX12_readClass_332) hS (fun s4 H locs h hW hS => ?_)
      refine lv_iconst (v := (1 : Int32)) hx hb dX12_readClass_335 (by decide) ?_
      exact r_z C hr hW hS h.1 h.2 dX12_readClass_336
    · replace h := h.1 hc
      refine x_aload_n C hl dX12_readClass_301 rfl ?_
      refine y_i (x_run (As := []) C hW hS (T_X12_toldWord l l0 s2 _ h) t1 kl_12 (CW.of yv_X12_toldWord ml_X12_284) ⟨rfl, rfl, ⟨by decide, by decide⟩, by decide, by decide⟩ rfl hl.1 rfl (by decide) dX12_readClass_302) hS (fun w6 s5 H locs h hW hS => ?_)
      refine lv_bipush (v := (15 : Int32)) hx hb dX12_readClass_305 (by decide) ?_
      refine lv_icmp_ne hx hb dX12_readClass_307 (tgt := 321) rfl (fun hc => ?_) (fun hc => ?_)
      · replace h := h.2 hc
        refine x_aload_n C hl dX12_readClass_321 rfl ?_
        refine x_iload_n C hl dX12_readClass_322 rfl ?_
        refine y_i (x_run (As := [.int l1]) C hW hS (T_X12_readMember l l0 l1 s5 _ h) t1 kl_12 (CW.of yv_X12_readMember ml_X12_332) ⟨rfl, rfl, ⟨by decide, by decide⟩, by decide, by decide⟩ rfl hl.1 rfl (by decide) dX12_readClass_323) hS (fun w8 s7 H locs h hW hS => ?_)
        refine lv_if_ne hx hb dX12_readClass_326 (tgt := 292) rfl (fun hc => ?_) (fun hc => ?_)
        · replace h := h.2 hc
          exact hK292 _ _ _ _ hS hW (hl.keep [true, true, false, false] rfl) h
        · replace h := h.1 hc
          exact t_X12_readClass_329 C hr hS hW (hl.keep [false, false, false, false] rfl) h
      · replace h := h.1 hc
        refine x_aload_n C hl dX12_readClass_310 rfl ?_
        refine x_iload_n C hl dX12_readClass_311 rfl ?_
        refine y_i (x_run (As := [.int l1]) C hW hS (T_X12_readHook l l0 l1 s5 _ h) t1 kl_12 (CW.of yv_X12_readHook ml_X12_329) ⟨rfl, rfl, ⟨by decide, by decide⟩, by decide, by decide⟩ rfl hl.1 rfl (by decide) dX12_readClass_312) hS (fun w10 s9 H locs h hW hS => ?_)
        refine lv_if_eq hx hb dX12_readClass_315 (tgt := 329) rfl (fun hc => ?_) (fun hc => ?_)
        · replace h := h.1 hc
          exact t_X12_readClass_329 C hr hS hW (hl.keep [false, false, false, false] rfl) h
        · replace h := h.2 hc
          refine lv_goto hx hb dX12_readClass_318 (tgt := 292) rfl ?_
          exact hK292 _ _ _ _ hS hW (hl.keep [true, true, false, false] rfl) h
set_option maxRecDepth 20000 in
set_option maxHeartbeats 4000000 in
theorem t_X12_readClass_292 {p : Program} {l : Launch} {e : Env} {s : State} {m : MethodId} {args : Array Value} {below : List Frame} {meth : Method} {c : Code} {H : Heap} {locs : List Loc} {D : va_G} {tc : Nat → ClassId} {b0 : Nat} {ls : Array Slot} {G : Lay} {Qx : Int32 → Mem → Prop} {l0 : Nat} {l1 : Int32}  {σ : Mem} (C : Cx p s m args meth c cX12_readClass RX12 4 D tc b0) (hr : meth.sig.returnType = (some FieldType.boolean)) (hS : va_S (AA b0) s.heap H locs) (hW : Wd G D tc b0 σ H) (hl : hL b0 ls 4 [some (.inr (.inr l0)), some (.inl l1), none, none]) (h : X_X12_readClass_292 G Qx l0 l1 σ) : W p l e rm_X12_readClass s m args below meth c H locs 0 0 (MQ below (va_Qi Qx (fun u t => Pw G D tc b0 u t) (AA b0)) args s 0 0 (AA b0)) (F0 m 292 ls []) := by
  obtain ⟨n, h⟩ := h
  exact t_X12_readClass_292_n C hr n  σ H locs ls hS hW hl h
set_option maxRecDepth 20000 in
set_option maxHeartbeats 4000000 in
theorem t_X12_readClass_271 {p : Program} {l : Launch} {e : Env} {s : State} {m : MethodId} {args : Array Value} {below : List Frame} {meth : Method} {c : Code} {H : Heap} {locs : List Loc} {D : va_G} {tc : Nat → ClassId} {b0 : Nat} {ls : Array Slot} {G : Lay} {Qx : Int32 → Mem → Prop} {l0 : Nat} {l1 : Int32}  {σ : Mem} (C : Cx p s m args meth c cX12_readClass RX12 4 D tc b0) (hr : meth.sig.returnType = (some FieldType.boolean)) (hS : va_S (AA b0) s.heap H locs) (hW : Wd G D tc b0 σ H) (hl : hL b0 ls 4 [some (.inr (.inr l0)), some (.inl l1), none, none]) (h : X_X12_readClass_271 G Qx l0 l1  σ) : W p l e rm_X12_readClass s m args below meth c H locs 0 0 (MQ below (va_Qi Qx (fun u t => Pw G D tc b0 u t) (AA b0)) args s 0 0 (AA b0)) (F0 m 271 ls []) := by
  have hx := C.1
  have hb := C.2.1
  unfold X_X12_readClass_271 at h
  refine x_aload_n C hl dX12_readClass_271 rfl ?_
  refine lv_bipush (v := (123 : Int32)) hx hb dX12_readClass_272 (by decide) ?_
  have t1 := h.1
  replace h := h.2
  refine y_i (x_run (As := [.int (123 : Int32)]) C hW hS (T_X12_needs l l0 (123 : Int32) σ _ h) t1 kl_12 (CW.of yv_X12_needs ml_X12_326) ⟨rfl, rfl, ⟨by decide, by decide⟩, by decide, by decide⟩ rfl hl.1 rfl (by decide) dX12_readClass_274) hS (fun w3 s2 H locs h hW hS => ?_)
  refine lv_if_ne hx hb dX12_readClass_277 (tgt := 282) rfl (fun hc => ?_) (fun hc => ?_)
  · replace h := h.2 hc
    refine x_aload_n C hl dX12_readClass_282 rfl ?_
    refine lv_dup hx hb dX12_readClass_283 (rv_cat _ _) ?_
    refine x_get C hW (t := 12) (k := 56) t1 kl_12 (by decide) fl_X12_291 (v := .int (mI s2 l0 56)) rfl dX12_readClass_284 ?_
    refine lv_iconst (v := (1 : Int32)) hx hb dX12_readClass_287 (by decide) ?_
    refine lv_iadd hx hb dX12_readClass_288 ?_
    refine x_putI C hW hS (t := 12) (k := 56) t1 kl_12 (by decide) fl_X12_291 rfl rfl rfl rfl dX12_readClass_289 (fun H locs hW hS => ?_)
    obtain ⟨s4, e_s4⟩ : ∃ z : Mem, z = (sI s2 l0 56 ((mI s2 l0 56) + (1 : Int32))) := ⟨_, rfl⟩
    replace h := h s4 e_s4
    replace hW : Wd G D tc b0 s4 H := by rw [e_s4]; exact hW
    exact t_X12_readClass_292 C hr hS hW (hl.keep [true, true, false, false] rfl) h
  · replace h := h.1 hc
    refine lv_iconst (v := (0 : Int32)) hx hb dX12_readClass_280 (by decide) ?_
    exact r_z C hr hW hS h.1 h.2 dX12_readClass_281
set_option maxRecDepth 20000 in
set_option maxHeartbeats 4000000 in
theorem t_X12_readClass_188_n {p : Program} {l : Launch} {e : Env} {s : State} {m : MethodId} {args : Array Value} {below : List Frame} {meth : Method} {c : Code} {D : va_G} {tc : Nat → ClassId} {b0 : Nat} {G : Lay} {Qx : Int32 → Mem → Prop} {l0 : Nat} {l1 : Int32} {l2 : Int32} (C : Cx p s m args meth c cX12_readClass RX12 4 D tc b0) (hr : meth.sig.returnType = (some FieldType.boolean)) (n : Nat) : ∀ (l3 : Int32) (σ : Mem) (H : Heap) (locs : List Loc) (ls : Array Slot), va_S (AA b0) s.heap H locs → Wd G D tc b0 σ H → hL b0 ls 4 [some (.inr (.inr l0)), some (.inl l1), some (.inl l2), some (.inl l3)] → Lp (X_X12_readClass_188_s G Qx l0 l1 l2) n (l3, σ) → W p l e rm_X12_readClass s m args below meth c H locs 0 0 (MQ below (va_Qi Qx (fun u t => Pw G D tc b0 u t) (AA b0)) args s 0 0 (AA b0)) (F0 m 188 ls []) := by
  have hx := C.1
  have hb := C.2.1
  induction n with
  | zero => intro l3 σ H locs ls hS hW hl h; exact False.elim h
  | succ n hK188 =>
    intro l3 σ H locs ls hS hW hl h
    replace h : X_X12_readClass_188_s G Qx l0 l1 l2 (Lp (X_X12_readClass_188_s G Qx l0 l1 l2) n) (l3, σ) := h
    unfold X_X12_readClass_188_s at h
    refine x_iload_n C hl dX12_readClass_188 rfl ?_
    refine x_aload_n C hl dX12_readClass_189 rfl ?_
    have t1 := h.1
    replace h := h.2
    refine x_get C hW (t := 12) (k := 6) t1 kl_12 (by decide) fl_X12_23 (v := rv b0 (mR σ l0 6)) rfl dX12_readClass_190 ?_
    refine x_iload_n C hl dX12_readClass_193 rfl ?_
    have t2 := h.1
    replace h := h.2
    have v3 := h.1
    replace h := h.2
    refine x_iald C hW t2 v3 dX12_readClass_194 ?_
    refine lv_icmp_ge hx hb dX12_readClass_195 (tgt := 214) rfl (fun hc => ?_) (fun hc => ?_)
    · replace h := h.1 hc
      refine x_aload_n C hl dX12_readClass_214 rfl ?_
      refine y_v (x_run (As := []) C hW hS (T_X12_advance l l0 σ _ h) t1 kl_12 (CW.of yv_X12_advance ml_X12_271) ⟨rfl, rfl, ⟨by decide, by decide⟩, by decide, by decide⟩ rfl hl.1 rfl (by decide) dX12_readClass_215) hS (fun s4 H locs h hW hS => ?_)
      refine lv_goto hx hb dX12_readClass_218 (tgt := 271) rfl ?_
      exact t_X12_readClass_271 C hr hS hW (hl.keep [true, true, false, false] rfl) h
    · replace h := h.2 hc
      refine x_aload_n C hl dX12_readClass_198 rfl ?_
      refine lv_bipush (v := (13 : Int32)) hx hb dX12_readClass_199 (by decide) ?_
      refine x_iload_n C hl dX12_readClass_201 rfl ?_
      refine lv_iadd hx hb dX12_readClass_202 ?_
      refine x_iload_n C hl dX12_readClass_203 rfl ?_
      refine x_iload_n C hl dX12_readClass_204 rfl ?_
      refine y_v (x_run (As := [.int ((13 : Int32) + l2), .int l1, .int l3]) C hW hS (T_X12_copyMember l l0 ((13 : Int32) + l2) l1 l3 σ _ h) t1 kl_12 (CW.of yv_X12_copyMember ml_X12_322) ⟨rfl, rfl, ⟨by decide, by decide⟩, by decide, by decide⟩ rfl hl.1 rfl (by decide) dX12_readClass_205) hS (fun s5 H locs h hW hS => ?_)
      refine x_iinc C hl dX12_readClass_208 rfl (v := (1 : Int32)) (by decide) (by decide) rfl (fun ls hl => ?_)
      refine lv_goto hx hb dX12_readClass_211 (tgt := 188) rfl ?_
      exact hK188 _ _ _ _ _ hS hW (hl.keep [true, true, true, true] rfl) h
set_option maxRecDepth 20000 in
set_option maxHeartbeats 4000000 in
theorem t_X12_readClass_188 {p : Program} {l : Launch} {e : Env} {s : State} {m : MethodId} {args : Array Value} {below : List Frame} {meth : Method} {c : Code} {H : Heap} {locs : List Loc} {D : va_G} {tc : Nat → ClassId} {b0 : Nat} {ls : Array Slot} {G : Lay} {Qx : Int32 → Mem → Prop} {l0 : Nat} {l1 : Int32} {l2 : Int32} {l3 : Int32}  {σ : Mem} (C : Cx p s m args meth c cX12_readClass RX12 4 D tc b0) (hr : meth.sig.returnType = (some FieldType.boolean)) (hS : va_S (AA b0) s.heap H locs) (hW : Wd G D tc b0 σ H) (hl : hL b0 ls 4 [some (.inr (.inr l0)), some (.inl l1), some (.inl l2), some (.inl l3)]) (h : X_X12_readClass_188 G Qx l0 l1 l2 l3 σ) : W p l e rm_X12_readClass s m args below meth c H locs 0 0 (MQ below (va_Qi Qx (fun u t => Pw G D tc b0 u t) (AA b0)) args s 0 0 (AA b0)) (F0 m 188 ls []) := by
  obtain ⟨n, h⟩ := h
  exact t_X12_readClass_188_n C hr n l3 σ H locs ls hS hW hl h
set_option maxRecDepth 20000 in
set_option maxHeartbeats 4000000 in
theorem t_X12_readClass_258 {p : Program} {l : Launch} {e : Env} {s : State} {m : MethodId} {args : Array Value} {below : List Frame} {meth : Method} {c : Code} {H : Heap} {locs : List Loc} {D : va_G} {tc : Nat → ClassId} {b0 : Nat} {ls : Array Slot} {G : Lay} {Qx : Int32 → Mem → Prop} {l0 : Nat} {l1 : Int32} {l2 : Int32}  {σ : Mem} (C : Cx p s m args meth c cX12_readClass RX12 4 D tc b0) (hr : meth.sig.returnType = (some FieldType.boolean)) (hS : va_S (AA b0) s.heap H locs) (hW : Wd G D tc b0 σ H) (hl : hL b0 ls 4 [some (.inr (.inr l0)), some (.inl l1), some (.inl l2), none]) (h : X_X12_readClass_258 G Qx l0 l1 l2  σ) : W p l e rm_X12_readClass s m args below meth c H locs 0 0 (MQ below (va_Qi Qx (fun u t => Pw G D tc b0 u t) (AA b0)) args s 0 0 (AA b0)) (F0 m 258 ls []) := by
  have hx := C.1
  have hb := C.2.1
  unfold X_X12_readClass_258 at h
  refine x_aload_n C hl dX12_readClass_258 rfl ?_
  have t1 := h.1
  replace h := h.2
  refine x_get C hW (t := 12) (k := 5) t1 kl_12 (by decide) fl_X12_20 (v := rv b0 (mR σ l0 5)) rfl dX12_readClass_259 ?_
  refine x_iload_n C hl dX12_readClass_262 rfl ?_
  refine x_iload_n C hl dX12_readClass_263 rfl ?_
  refine lv_iconst (v := (3 : Int32)) hx hb dX12_readClass_264 (by decide) ?_
  refine lv_isub hx hb dX12_readClass_265 ?_
  have t2 := h.1
  replace h := h.2
  have v3 := h.1
  replace h := h.2
  refine x_iast C hW hS t2 v3 dX12_readClass_266 (fun H locs hW hS => ?_)
  obtain ⟨s4, e_s4⟩ : ∃ z : Mem, z = (sI σ (mR σ l0 5) l1.toNatClampNeg (l2 - (3 : Int32))) := ⟨_, rfl⟩
  replace h := h s4 e_s4
  replace hW : Wd G D tc b0 s4 H := by rw [e_s4]; exact hW
  refine x_aload_n C hl dX12_readClass_267 rfl ?_
  refine y_v (x_run (As := []) C hW hS (T_X12_advance l l0 s4 _ h) t1 kl_12 (CW.of yv_X12_advance ml_X12_271) ⟨rfl, rfl, ⟨by decide, by decide⟩, by decide, by decide⟩ rfl hl.1 rfl (by decide) dX12_readClass_268) hS (fun s5 H locs h hW hS => ?_)
  exact t_X12_readClass_271 C hr hS hW (hl.keep [true, true, false, false] rfl) h
set_option maxRecDepth 20000 in
set_option maxHeartbeats 4000000 in
theorem t_X12_readClass_0 {p : Program} {l : Launch} {e : Env} {s : State} {m : MethodId} {args : Array Value} {below : List Frame} {meth : Method} {c : Code} {H : Heap} {locs : List Loc} {D : va_G} {tc : Nat → ClassId} {b0 : Nat} {ls : Array Slot} {G : Lay} {Qx : Int32 → Mem → Prop} {l0 : Nat}  {σ : Mem} (C : Cx p s m args meth c cX12_readClass RX12 4 D tc b0) (hr : meth.sig.returnType = (some FieldType.boolean)) (hS : va_S (AA b0) s.heap H locs) (hW : Wd G D tc b0 σ H) (hl : hL b0 ls 4 [some (.inr (.inr l0)), none, none, none]) (h : X_X12_readClass_0 G Qx l0  σ) : W p l e rm_X12_readClass s m args below meth c H locs 0 0 (MQ below (va_Qi Qx (fun u t => Pw G D tc b0 u t) (AA b0)) args s 0 0 (AA b0)) (F0 m 0 ls []) := by
  have hx := C.1
  have hb := C.2.1
  unfold X_X12_readClass_0 at h
  refine x_aload_n C hl dX12_readClass_0 rfl ?_
  have t1 := h.1
  replace h := h.2
  refine y_i (x_run (As := []) C hW hS (T_X12_isName l l0 σ _ h) t1 kl_12 (CW.of yv_X12_isName ml_X12_319) ⟨rfl, rfl, ⟨by decide, by decide⟩, by decide, by decide⟩ rfl hl.1 rfl (by decide) dX12_readClass_1) hS (fun w3 s2 H locs h hW hS => ?_)
  refine lv_if_ne hx hb dX12_readClass_4 (tgt := 12) rfl (fun hc => ?_) (fun hc => ?_)
  · replace h := h.2 hc
    refine x_aload_n C hl dX12_readClass_12 rfl ?_
    refine lv_bipush (v := (13 : Int32)) hx hb dX12_readClass_13 (by decide) ?_
    refine x_aload_n C hl dX12_readClass_15 rfl ?_
    refine x_get C hW (t := 12) (k := 56) t1 kl_12 (by decide) fl_X12_291 (v := .int (mI s2 l0 56)) rfl dX12_readClass_16 ?_
    refine x_aload_n C hl dX12_readClass_19 rfl ?_
    refine x_get C hW (t := 12) (k := 52) t1 kl_12 (by decide) fl_X12_246 (v := .long (mJ s2 l0 52)) rfl dX12_readClass_20 ?_
    refine y_i (x_run (As := [.int (13 : Int32), .int (mI s2 l0 56), .long (mJ s2 l0 52)]) C hW hS (T_X12_classNamed l l0 (13 : Int32) (mI s2 l0 56) (mJ s2 l0 52) s2 _ h) t1 kl_12 (CW.of yv_X12_classNamed ml_X12_303) ⟨rfl, rfl, ⟨by decide, by decide⟩, by decide, by decide⟩ rfl hl.1 rfl (by decide) dX12_readClass_23) hS (fun w5 s4 H locs h hW hS => ?_)
    refine lv_if_lt hx hb dX12_readClass_26 (tgt := 35) rfl (fun hc => ?_) (fun hc => ?_)
    · replace h := h.1 hc
      refine x_aload_n C hl dX12_readClass_35 rfl ?_
      refine x_get C hW (t := 12) (k := 56) t1 kl_12 (by decide) fl_X12_291 (v := .int (mI s4 l0 56)) rfl dX12_readClass_36 ?_
      refine lv_bipush (v := (12 : Int32)) hx hb dX12_readClass_39 (by decide) ?_
      refine lv_icmp_ne hx hb dX12_readClass_41 (tgt := 50) rfl (fun hc => ?_) (fun hc => ?_)
      · replace h := h.2 hc
        refine lv_bipush (v := (13 : Int32)) hx hb dX12_readClass_50 (by decide) ?_
        refine x_aload_n C hl dX12_readClass_52 rfl ?_
        refine x_get C hW (t := 12) (k := 56) t1 kl_12 (by decide) fl_X12_291 (v := .int (mI s4 l0 56)) rfl dX12_readClass_53 ?_
        refine lv_iadd hx hb dX12_readClass_56 ?_
        refine x_istore_n C hl dX12_readClass_57 (by decide) rfl (fun ls hl => ?_)
        refine x_aload_n C hl dX12_readClass_58 rfl ?_
        refine x_get C hW (t := 12) (k := 3) t1 kl_12 (by decide) fl_X12_13 (v := rv b0 (mR s4 l0 3)) rfl dX12_readClass_59 ?_
        refine x_iload_n C hl dX12_readClass_62 rfl ?_
        refine x_aload_n C hl dX12_readClass_63 rfl ?_
        refine x_get C hW (t := 12) (k := 52) t1 kl_12 (by decide) fl_X12_246 (v := .long (mJ s4 l0 52)) rfl dX12_readClass_64 ?_
        have t6 := h.1
        replace h := h.2
        have v7 := h.1
        replace h := h.2
        refine x_last C hW hS t6 v7 dX12_readClass_67 (fun H locs hW hS => ?_)
        obtain ⟨s8, e_s8⟩ : ∃ z : Mem, z = (sJ s4 (mR s4 l0 3) ((13 : Int32) + (mI s4 l0 56)).toNatClampNeg (mJ s4 l0 52)) := ⟨_, rfl⟩
        replace h := h s8 e_s8
        replace hW : Wd G D tc b0 s8 H := by rw [e_s8]; exact hW
        refine x_aload_n C hl dX12_readClass_68 rfl ?_
        refine x_get C hW (t := 12) (k := 4) t1 kl_12 (by decide) fl_X12_17 (v := rv b0 (mR s8 l0 4)) rfl dX12_readClass_69 ?_
        refine x_iload_n C hl dX12_readClass_72 rfl ?_
        refine lv_iconst (v := (-1 : Int32)) hx hb dX12_readClass_73 (by decide) ?_
        have t9 := h.1
        replace h := h.2
        have v10 := h.1
        replace h := h.2
        refine x_iast C hW hS t9 v10 dX12_readClass_74 (fun H locs hW hS => ?_)
        obtain ⟨s11, e_s11⟩ : ∃ z : Mem, z = (sI s8 (mR s8 l0 4) ((13 : Int32) + (mI s4 l0 56)).toNatClampNeg (-1 : Int32)) := ⟨_, rfl⟩
        replace h := h s11 e_s11
        replace hW : Wd G D tc b0 s11 H := by rw [e_s11]; exact hW
        refine x_aload_n C hl dX12_readClass_75 rfl ?_
        refine x_get C hW (t := 12) (k := 5) t1 kl_12 (by decide) fl_X12_20 (v := rv b0 (mR s11 l0 5)) rfl dX12_readClass_76 ?_
        refine x_iload_n C hl dX12_readClass_79 rfl ?_
        refine lv_iconst (v := (0 : Int32)) hx hb dX12_readClass_80 (by decide) ?_
        have t12 := h.1
        replace h := h.2
        have v13 := h.1
        replace h := h.2
        refine x_iast C hW hS t12 v13 dX12_readClass_81 (fun H locs hW hS => ?_)
        obtain ⟨s14, e_s14⟩ : ∃ z : Mem, z = (sI s11 (mR s11 l0 5) ((13 : Int32) + (mI s4 l0 56)).toNatClampNeg (0 : Int32)) := ⟨_, rfl⟩
        replace h := h s14 e_s14
        replace hW : Wd G D tc b0 s14 H := by rw [e_s14]; exact hW
        refine x_aload_n C hl dX12_readClass_82 rfl ?_
        refine x_get C hW (t := 12) (k := 6) t1 kl_12 (by decide) fl_X12_23 (v := rv b0 (mR s14 l0 6)) rfl dX12_readClass_83 ?_
        refine x_iload_n C hl dX12_readClass_86 rfl ?_
        refine lv_iconst (v := (0 : Int32)) hx hb dX12_readClass_87 (by decide) ?_
        have t15 := h.1
        replace h := h.2
        have v16 := h.1
        replace h := h.2
        refine x_iast C hW hS t15 v16 dX12_readClass_88 (fun H locs hW hS => ?_)
        obtain ⟨s17, e_s17⟩ : ∃ z : Mem, z = (sI s14 (mR s14 l0 6) ((13 : Int32) + (mI s4 l0 56)).toNatClampNeg (0 : Int32)) := ⟨_, rfl⟩
        replace h := h s17 e_s17
        replace hW : Wd G D tc b0 s17 H := by rw [e_s17]; exact hW
        refine x_aload_n C hl dX12_readClass_89 rfl ?_
        refine x_get C hW (t := 12) (k := 7) t1 kl_12 (by decide) fl_X12_26 (v := rv b0 (mR s17 l0 7)) rfl dX12_readClass_90 ?_
        refine x_iload_n C hl dX12_readClass_93 rfl ?_
        refine lv_iconst (v := (0 : Int32)) hx hb dX12_readClass_94 (by decide) ?_
        have t18 := h.1
        replace h := h.2
        have v19 := h.1
        replace h := h.2
        refine x_iast C hW hS t18 v19 dX12_readClass_95 (fun H locs hW hS => ?_)
        obtain ⟨s20, e_s20⟩ : ∃ z : Mem, z = (sI s17 (mR s17 l0 7) ((13 : Int32) + (mI s4 l0 56)).toNatClampNeg (0 : Int32)) := ⟨_, rfl⟩
        replace h := h s20 e_s20
        replace hW : Wd G D tc b0 s20 H := by rw [e_s20]; exact hW
        refine x_aload_n C hl dX12_readClass_96 rfl ?_
        refine y_v (x_run (As := []) C hW hS (T_X12_advance l l0 s20 _ h) t1 kl_12 (CW.of yv_X12_advance ml_X12_271) ⟨rfl, rfl, ⟨by decide, by decide⟩, by decide, by decide⟩ rfl hl.1 rfl (by decide) dX12_readClass_97) hS (fun s21 H locs h hW hS => ?_)
        refine x_aload_n C hl dX12_readClass_100 rfl ?_
        refine y_i (x_run (As := []) C hW hS (T_X12_toldWord l l0 s21 _ h) t1 kl_12 (CW.of yv_X12_toldWord ml_X12_284) ⟨rfl, rfl, ⟨by decide, by decide⟩, by decide, by decide⟩ rfl hl.1 rfl (by decide) dX12_readClass_101) hS (fun w23 s22 H locs h hW hS => ?_)
        refine lv_iconst (v := (1 : Int32)) hx hb dX12_readClass_104 (by decide) ?_
        refine lv_icmp_ne hx hb dX12_readClass_105 (tgt := 221) rfl (fun hc => ?_) (fun hc => ?_)
        · replace h := h.2 hc
          refine x_aload_n C hl dX12_readClass_221 rfl ?_
          refine y_i (x_run (As := []) C hW hS (T_X12_toldWord l l0 s22 _ h) t1 kl_12 (CW.of yv_X12_toldWord ml_X12_284) ⟨rfl, rfl, ⟨by decide, by decide⟩, by decide, by decide⟩ rfl hl.1 rfl (by decide) dX12_readClass_222) hS (fun w25 s24 H locs h hW hS => ?_)
          refine lv_iconst (v := (2 : Int32)) hx hb dX12_readClass_225 (by decide) ?_
          refine lv_icmp_ne hx hb dX12_readClass_226 (tgt := 271) rfl (fun hc => ?_) (fun hc => ?_)
          · replace h := h.2 hc
            exact t_X12_readClass_271 C hr hS hW (hl.keep [true, true, false, false] rfl) h
          · replace h := h.1 hc
            refine x_aload_n C hl dX12_readClass_229 rfl ?_
            refine y_v (x_run (As := []) C hW hS (T_X12_advance l l0 s24 _ h) t1 kl_12 (CW.of yv_X12_advance ml_X12_271) ⟨rfl, rfl, ⟨by decide, by decide⟩, by decide, by decide⟩ rfl hl.1 rfl (by decide) dX12_readClass_230) hS (fun s26 H locs h hW hS => ?_)
            refine x_aload_n C hl dX12_readClass_233 rfl ?_
            refine y_i (x_run (As := []) C hW hS (T_X12_toldWord l l0 s26 _ h) t1 kl_12 (CW.of yv_X12_toldWord ml_X12_284) ⟨rfl, rfl, ⟨by decide, by decide⟩, by decide, by decide⟩ rfl hl.1 rfl (by decide) dX12_readClass_234) hS (fun w28 s27 H locs h hW hS => ?_)
            refine x_istore_n C hl dX12_readClass_237 (by decide) rfl (fun ls hl => ?_)
            refine x_iload_n C hl dX12_readClass_238 rfl ?_
            refine lv_iconst (v := (3 : Int32)) hx hb dX12_readClass_239 (by decide) ?_
            refine lv_icmp_eq hx hb dX12_readClass_240 (tgt := 258) rfl (fun hc => ?_) (fun hc => ?_)
            · replace h := h.1 hc
              exact t_X12_readClass_258 C hr hS hW (hl.keep [true, true, true, false] rfl) h
            · replace h := h.2 hc
              refine x_iload_n C hl dX12_readClass_243 rfl ?_
              refine lv_iconst (v := (4 : Int32)) hx hb dX12_readClass_244 (by decide) ?_
              refine lv_icmp_eq hx hb dX12_readClass_245 (tgt := 258) rfl (fun hc => ?_) (fun hc => ?_)
              · replace h := h.1 hc
                exact t_X12_readClass_258 C hr hS hW (hl.keep [true, true, true, false] rfl) h
              · replace h := h.2 hc
                refine x_iload_n C hl dX12_readClass_248 rfl ?_
                refine lv_iconst (v := (5 : Int32)) hx hb dX12_readClass_249 (by decide) ?_
                refine lv_icmp_eq hx hb dX12_readClass_250 (tgt := 258) rfl (fun hc => ?_) (fun hc => ?_)
                · replace h := h.1 hc
                  exact t_X12_readClass_258 C hr hS hW (hl.keep [true, true, true, false] rfl) h
                · replace h := h.2 hc
                  refine x_aload_n C hl dX12_readClass_253 rfl ?_
                  refine y_i (x_run (As := []) C hW hS (T_X12_wrong l l0 s27 _ h) t1 kl_12 (CW.of yv_X12_wrong ml_X12_267) ⟨rfl, rfl, ⟨by decide, by decide⟩, by decide, by decide⟩ rfl hl.1 rfl (by decide) dX12_readClass_254) hS (fun w30 s29 H locs h hW hS => ?_)
                  exact r_z C hr hW hS h.1 h.2 dX12_readClass_257
        · replace h := h.1 hc
          refine x_aload_n C hl dX12_readClass_108 rfl ?_
          refine y_v (x_run (As := []) C hW hS (T_X12_advance l l0 s22 _ h) t1 kl_12 (CW.of yv_X12_advance ml_X12_271) ⟨rfl, rfl, ⟨by decide, by decide⟩, by decide, by decide⟩ rfl hl.1 rfl (by decide) dX12_readClass_109) hS (fun s31 H locs h hW hS => ?_)
          refine x_aload_n C hl dX12_readClass_112 rfl ?_
          refine y_i (x_run (As := []) C hW hS (T_X12_isName l l0 s31 _ h) t1 kl_12 (CW.of yv_X12_isName ml_X12_319) ⟨rfl, rfl, ⟨by decide, by decide⟩, by decide, by decide⟩ rfl hl.1 rfl (by decide) dX12_readClass_113) hS (fun w33 s32 H locs h hW hS => ?_)
          refine lv_if_ne hx hb dX12_readClass_116 (tgt := 124) rfl (fun hc => ?_) (fun hc => ?_)
          · replace h := h.2 hc
            refine x_aload_n C hl dX12_readClass_124 rfl ?_
            refine lv_bipush (v := (13 : Int32)) hx hb dX12_readClass_125 (by decide) ?_
            refine x_aload_n C hl dX12_readClass_127 rfl ?_
            refine x_get C hW (t := 12) (k := 56) t1 kl_12 (by decide) fl_X12_291 (v := .int (mI s32 l0 56)) rfl dX12_readClass_128 ?_
            refine x_aload_n C hl dX12_readClass_131 rfl ?_
            refine x_get C hW (t := 12) (k := 52) t1 kl_12 (by decide) fl_X12_246 (v := .long (mJ s32 l0 52)) rfl dX12_readClass_132 ?_
            refine y_i (x_run (As := [.int (13 : Int32), .int (mI s32 l0 56), .long (mJ s32 l0 52)]) C hW hS (T_X12_classNamed l l0 (13 : Int32) (mI s32 l0 56) (mJ s32 l0 52) s32 _ h) t1 kl_12 (CW.of yv_X12_classNamed ml_X12_303) ⟨rfl, rfl, ⟨by decide, by decide⟩, by decide, by decide⟩ rfl hl.1 rfl (by decide) dX12_readClass_135) hS (fun w35 s34 H locs h hW hS => ?_)
            refine x_istore_n C hl dX12_readClass_138 (by decide) rfl (fun ls hl => ?_)
            refine x_iload_n C hl dX12_readClass_139 rfl ?_
            refine lv_if_ge hx hb dX12_readClass_140 (tgt := 149) rfl (fun hc => ?_) (fun hc => ?_)
            · replace h := h.1 hc
              refine x_aload_n C hl dX12_readClass_149 rfl ?_
              refine x_get C hW (t := 12) (k := 4) t1 kl_12 (by decide) fl_X12_17 (v := rv b0 (mR s34 l0 4)) rfl dX12_readClass_150 ?_
              refine x_iload_n C hl dX12_readClass_153 rfl ?_
              refine x_iload_n C hl dX12_readClass_154 rfl ?_
              have t36 := h.1
              replace h := h.2
              have v37 := h.1
              replace h := h.2
              refine x_iast C hW hS t36 v37 dX12_readClass_155 (fun H locs hW hS => ?_)
              obtain ⟨s38, e_s38⟩ : ∃ z : Mem, z = (sI s34 (mR s34 l0 4) ((13 : Int32) + (mI s4 l0 56)).toNatClampNeg w35) := ⟨_, rfl⟩
              replace h := h s38 e_s38
              replace hW : Wd G D tc b0 s38 H := by rw [e_s38]; exact hW
              refine x_aload_n C hl dX12_readClass_156 rfl ?_
              refine x_get C hW (t := 12) (k := 5) t1 kl_12 (by decide) fl_X12_20 (v := rv b0 (mR s38 l0 5)) rfl dX12_readClass_157 ?_
              refine x_iload_n C hl dX12_readClass_160 rfl ?_
              refine x_aload_n C hl dX12_readClass_161 rfl ?_
              refine x_get C hW (t := 12) (k := 5) t1 kl_12 (by decide) fl_X12_20 (v := rv b0 (mR s38 l0 5)) rfl dX12_readClass_162 ?_
              refine lv_bipush (v := (13 : Int32)) hx hb dX12_readClass_165 (by decide) ?_
              refine x_iload_n C hl dX12_readClass_167 rfl ?_
              refine lv_iadd hx hb dX12_readClass_168 ?_
              have t39 := h.1
              replace h := h.2
              have v40 := h.1
              replace h := h.2
              refine x_iald C hW t39 v40 dX12_readClass_169 ?_
              have v41 := h.1
              replace h := h.2
              refine x_iast C hW hS t39 v41 dX12_readClass_170 (fun H locs hW hS => ?_)
              obtain ⟨s42, e_s42⟩ : ∃ z : Mem, z = (sI s38 (mR s38 l0 5) ((13 : Int32) + (mI s4 l0 56)).toNatClampNeg (mI s38 (mR s38 l0 5) ((13 : Int32) + w35).toNatClampNeg)) := ⟨_, rfl⟩
              replace h := h s42 e_s42
              replace hW : Wd G D tc b0 s42 H := by rw [e_s42]; exact hW
              refine x_aload_n C hl dX12_readClass_171 rfl ?_
              refine x_get C hW (t := 12) (k := 6) t1 kl_12 (by decide) fl_X12_23 (v := rv b0 (mR s42 l0 6)) rfl dX12_readClass_172 ?_
              refine x_iload_n C hl dX12_readClass_175 rfl ?_
              refine x_aload_n C hl dX12_readClass_176 rfl ?_
              refine x_get C hW (t := 12) (k := 6) t1 kl_12 (by decide) fl_X12_23 (v := rv b0 (mR s42 l0 6)) rfl dX12_readClass_177 ?_
              refine lv_bipush (v := (13 : Int32)) hx hb dX12_readClass_180 (by decide) ?_
              refine x_iload_n C hl dX12_readClass_182 rfl ?_
              refine lv_iadd hx hb dX12_readClass_183 ?_
              have t43 := h.1
              replace h := h.2
              have v44 := h.1
              replace h := h.2
              refine x_iald C hW t43 v44 dX12_readClass_184 ?_
              have v45 := h.1
              replace h := h.2
              refine x_iast C hW hS t43 v45 dX12_readClass_185 (fun H locs hW hS => ?_)
              obtain ⟨s46, e_s46⟩ : ∃ z : Mem, z = (sI s42 (mR s42 l0 6) ((13 : Int32) + (mI s4 l0 56)).toNatClampNeg (mI s42 (mR s42 l0 6) ((13 : Int32) + w35).toNatClampNeg)) := ⟨_, rfl⟩
              replace h := h s46 e_s46
              replace hW : Wd G D tc b0 s46 H := by rw [e_s46]; exact hW
              refine lv_iconst (v := (0 : Int32)) hx hb dX12_readClass_186 (by decide) ?_
              refine x_istore_n C hl dX12_readClass_187 (by decide) rfl (fun ls hl => ?_)
              exact t_X12_readClass_188 C hr hS hW (hl.keep [true, true, true, true] rfl) h
            · replace h := h.2 hc
              refine x_aload_n C hl dX12_readClass_143 rfl ?_
              refine lv_iconst (v := (3 : Int32)) hx hb dX12_readClass_144 (by decide) ?_
              refine y_i (x_run (As := [.int (3 : Int32)]) C hW hS (T_X12_fails l l0 (3 : Int32) s34 _ h) t1 kl_12 (CW.of yv_X12_fails ml_X12_261) ⟨rfl, rfl, ⟨by decide, by decide⟩, by decide, by decide⟩ rfl hl.1 rfl (by decide) dX12_readClass_145) hS (fun w48 s47 H locs h hW hS => ?_)
              exact r_z C hr hW hS h.1 h.2 dX12_readClass_148
          · replace h := h.1 hc
            refine x_aload_n C hl dX12_readClass_119 rfl ?_
            refine y_i (x_run (As := []) C hW hS (T_X12_wrong l l0 s32 _ h) t1 kl_12 (CW.of yv_X12_wrong ml_X12_267) ⟨rfl, rfl, ⟨by decide, by decide⟩, by decide, by decide⟩ rfl hl.1 rfl (by decide) dX12_readClass_120) hS (fun w50 s49 H locs h hW hS => ?_)
            exact r_z C hr hW hS h.1 h.2 dX12_readClass_123
      · replace h := h.1 hc
        refine x_aload_n C hl dX12_readClass_44 rfl ?_
        refine lv_iconst (v := (4 : Int32)) hx hb dX12_readClass_45 (by decide) ?_
        refine y_i (x_run (As := [.int (4 : Int32)]) C hW hS (T_X12_fails l l0 (4 : Int32) s4 _ h) t1 kl_12 (CW.of yv_X12_fails ml_X12_261) ⟨rfl, rfl, ⟨by decide, by decide⟩, by decide, by decide⟩ rfl hl.1 rfl (by decide) dX12_readClass_46) hS (fun w52 s51 H locs h hW hS => ?_)
        exact r_z C hr hW hS h.1 h.2 dX12_readClass_49
    · replace h := h.2 hc
      refine x_aload_n C hl dX12_readClass_29 rfl ?_
      refine lv_iconst (v := (3 : Int32)) hx hb dX12_readClass_30 (by decide) ?_
      refine y_i (x_run (As := [.int (3 : Int32)]) C hW hS (T_X12_fails l l0 (3 : Int32) s4 _ h) t1 kl_12 (CW.of yv_X12_fails ml_X12_261) ⟨rfl, rfl, ⟨by decide, by decide⟩, by decide, by decide⟩ rfl hl.1 rfl (by decide) dX12_readClass_31) hS (fun w54 s53 H locs h hW hS => ?_)
      exact r_z C hr hW hS h.1 h.2 dX12_readClass_34
  · replace h := h.1 hc
    refine x_aload_n C hl dX12_readClass_7 rfl ?_
    refine y_i (x_run (As := []) C hW hS (T_X12_wrong l l0 s2 _ h) t1 kl_12 (CW.of yv_X12_wrong ml_X12_267) ⟨rfl, rfl, ⟨by decide, by decide⟩, by decide, by decide⟩ rfl hl.1 rfl (by decide) dX12_readClass_8) hS (fun w56 s55 H locs h hW hS => ?_)
    exact r_z C hr hW hS h.1 h.2 dX12_readClass_11
theorem T_X12_readClass (l : Launch) {G : Lay} {D : va_G} {tc : Nat → ClassId} {b0 : Nat} (l0 : Nat) (σ : Mem) (Qx : Int32 → Mem → Prop) (h : X_X12_readClass G Qx l0 σ) : MI l yX12_readClass cX12_readClass 4 ((some FieldType.boolean)) rm_X12_readClass G D tc b0 [rv b0 l0] σ Qx :=
  x_entry (y := yX12_readClass) [.inr (.inr l0)] 3 (by decide) (Nat.le_of_ble_eq_true rfl) (fun p e s m args below meth c ls C hr hW hl => t_X12_readClass_0 C hr va_S.rf hW (hl.keep [true, false, false, false] rfl) h)
/-! X12_copyMeant -/
set_option maxRecDepth 20000 in
set_option maxHeartbeats 4000000 in
theorem t_X12_copyMeant_0 {p : Program} {l : Launch} {e : Env} {s : State} {m : MethodId} {args : Array Value} {below : List Frame} {meth : Method} {c : Code} {H : Heap} {locs : List Loc} {D : va_G} {tc : Nat → ClassId} {b0 : Nat} {ls : Array Slot} {G : Lay} {Qx : Mem → Prop} {l0 : Nat} {l1 : Int32} {l2 : Int32}  {σ : Mem} (C : Cx p s m args meth c cX12_copyMeant RX12 5 D tc b0) (hr : meth.sig.returnType = (none : Option FieldType)) (hS : va_S (AA b0) s.heap H locs) (hW : Wd G D tc b0 σ H) (hl : hL b0 ls 5 [some (.inr (.inr l0)), some (.inl l1), some (.inl l2), none, none]) (h : X_X12_copyMeant_0 G Qx l0 l1 l2  σ) : W p l e rm_X12_copyMeant s m args below meth c H locs 0 0 (MQ below (va_Qv Qx (fun u t => Pw G D tc b0 u t) (AA b0)) args s 0 0 (AA b0)) (F0 m 0 ls []) := by
  have hx := C.1
  have hb := C.2.1
  unfold X_X12_copyMeant_0 at h
  refine lv_bipush (v := (16 : Int32)) hx hb dX12_copyMeant_0 (by decide) ?_
  refine x_iload_n C hl dX12_copyMeant_2 rfl ?_
  refine lv_imul hx hb dX12_copyMeant_3 ?_
  refine x_iload_n C hl dX12_copyMeant_4 rfl ?_
  refine lv_iadd hx hb dX12_copyMeant_5 ?_
  refine x_istore_n C hl dX12_copyMeant_6 (by decide) rfl (fun ls hl => ?_)
  refine lv_bipush (v := (16 : Int32)) hx hb dX12_copyMeant_7 (by decide) ?_
  refine lv_bipush (v := (13 : Int32)) hx hb dX12_copyMeant_9 (by decide) ?_
  refine x_aload_n C hl dX12_copyMeant_11 rfl ?_
  have t1 := h.1
  replace h := h.2
  refine x_get C hW (t := 12) (k := 15) t1 kl_12 (by decide) fl_X12_50 (v := rv b0 (mR σ l0 15)) rfl dX12_copyMeant_12 ?_
  refine x_iload_n C hl dX12_copyMeant_15 rfl ?_
  have t2 := h.1
  replace h := h.2
  have v3 := h.1
  replace h := h.2
  refine x_iald C hW t2 v3 dX12_copyMeant_16 ?_
  refine lv_iadd hx hb dX12_copyMeant_17 ?_
  refine lv_imul hx hb dX12_copyMeant_18 ?_
  refine x_iload_n C hl dX12_copyMeant_19 rfl ?_
  refine lv_iadd hx hb dX12_copyMeant_20 ?_
  refine x_istore C hl dX12_copyMeant_21 (by decide) rfl (fun ls hl => ?_)
  refine x_aload_n C hl dX12_copyMeant_23 rfl ?_
  refine x_get C hW (t := 12) (k := 10) t1 kl_12 (by decide) fl_X12_35 (v := rv b0 (mR σ l0 10)) rfl dX12_copyMeant_24 ?_
  refine x_iload_n C hl dX12_copyMeant_27 rfl ?_
  refine x_aload_n C hl dX12_copyMeant_28 rfl ?_
  refine x_get C hW (t := 12) (k := 10) t1 kl_12 (by decide) fl_X12_35 (v := rv b0 (mR σ l0 10)) rfl dX12_copyMeant_29 ?_
  refine x_iload C hl dX12_copyMeant_32 rfl ?_
  have t4 := h.1
  replace h := h.2
  have v5 := h.1
  replace h := h.2
  refine x_iald C hW t4 v5 dX12_copyMeant_34 ?_
  have v6 := h.1
  replace h := h.2
  refine x_iast C hW hS t4 v6 dX12_copyMeant_35 (fun H locs hW hS => ?_)
  obtain ⟨s7, e_s7⟩ : ∃ z : Mem, z = (sI σ (mR σ l0 10) (((16 : Int32) * l1) + l2).toNatClampNeg (mI σ (mR σ l0 10) (((16 : Int32) * ((13 : Int32) + (mI σ (mR σ l0 15) (((16 : Int32) * l1) + l2).toNatClampNeg))) + l2).toNatClampNeg)) := ⟨_, rfl⟩
  replace h := h s7 e_s7
  replace hW : Wd G D tc b0 s7 H := by rw [e_s7]; exact hW
  refine x_aload_n C hl dX12_copyMeant_36 rfl ?_
  refine x_get C hW (t := 12) (k := 14) t1 kl_12 (by decide) fl_X12_47 (v := rv b0 (mR s7 l0 14)) rfl dX12_copyMeant_37 ?_
  refine x_iload_n C hl dX12_copyMeant_40 rfl ?_
  refine x_aload_n C hl dX12_copyMeant_41 rfl ?_
  refine x_get C hW (t := 12) (k := 14) t1 kl_12 (by decide) fl_X12_47 (v := rv b0 (mR s7 l0 14)) rfl dX12_copyMeant_42 ?_
  refine x_iload C hl dX12_copyMeant_45 rfl ?_
  have t8 := h.1
  replace h := h.2
  have v9 := h.1
  replace h := h.2
  refine x_iald C hW t8 v9 dX12_copyMeant_47 ?_
  have v10 := h.1
  replace h := h.2
  refine x_iast C hW hS t8 v10 dX12_copyMeant_48 (fun H locs hW hS => ?_)
  obtain ⟨s11, e_s11⟩ : ∃ z : Mem, z = (sI s7 (mR s7 l0 14) (((16 : Int32) * l1) + l2).toNatClampNeg (mI s7 (mR s7 l0 14) (((16 : Int32) * ((13 : Int32) + (mI σ (mR σ l0 15) (((16 : Int32) * l1) + l2).toNatClampNeg))) + l2).toNatClampNeg)) := ⟨_, rfl⟩
  replace h := h s11 e_s11
  replace hW : Wd G D tc b0 s11 H := by rw [e_s11]; exact hW
  exact r_v C hr hW hS h dX12_copyMeant_49
theorem T_X12_copyMeant (l : Launch) {G : Lay} {D : va_G} {tc : Nat → ClassId} {b0 : Nat} (l0 : Nat) (l1 : Int32) (l2 : Int32) (σ : Mem) (Qx : Mem → Prop) (h : X_X12_copyMeant G Qx l0 l1 l2 σ) : MV l yX12_copyMeant cX12_copyMeant 5 ((none : Option FieldType)) rm_X12_copyMeant G D tc b0 [rv b0 l0, .int l1, .int l2] σ Qx :=
  x_entry (y := yX12_copyMeant) [.inr (.inr l0), .inl l1, .inl l2] 2 (by decide) (Nat.le_of_ble_eq_true rfl) (fun p e s m args below meth c ls C hr hW hl => t_X12_copyMeant_0 C hr va_S.rf hW (hl.keep [true, true, true, false, false] rfl) h)
/-! X12_readClasses -/
set_option maxRecDepth 20000 in
set_option maxHeartbeats 4000000 in
theorem t_X12_readClasses_49 {p : Program} {l : Launch} {e : Env} {s : State} {m : MethodId} {args : Array Value} {below : List Frame} {meth : Method} {c : Code} {H : Heap} {locs : List Loc} {D : va_G} {tc : Nat → ClassId} {b0 : Nat} {ls : Array Slot} {G : Lay} {Qx : Int32 → Mem → Prop}   {σ : Mem} (C : Cx p s m args meth c cX12_readClasses RX12 6 D tc b0) (hr : meth.sig.returnType = (some FieldType.boolean)) (hS : va_S (AA b0) s.heap H locs) (hW : Wd G D tc b0 σ H) (hl : hL b0 ls 6 [none, none, none, none, none, none]) (h : X_X12_readClasses_49 G Qx   σ) : W p l e rm_X12_readClasses s m args below meth c H locs 0 0 (MQ below (va_Qi Qx (fun u t => Pw G D tc b0 u t) (AA b0)) args s 0 0 (AA b0)) (F0 m 49 ls []) := by
  have hx := C.1
  have hb := C.2.1
  unfold X_X12_readClasses_49 at h
  refine lv_iconst (v := (0 : Int32)) hx hb dX12_readClasses_49 (by decide) ?_
  exact r_z C hr hW hS h.1 h.2 dX12_readClasses_50
set_option maxRecDepth 20000 in
set_option maxHeartbeats 4000000 in
theorem t_X12_readClasses_132 {p : Program} {l : Launch} {e : Env} {s : State} {m : MethodId} {args : Array Value} {below : List Frame} {meth : Method} {c : Code} {H : Heap} {locs : List Loc} {D : va_G} {tc : Nat → ClassId} {b0 : Nat} {ls : Array Slot} {G : Lay} {Qx : Int32 → Mem → Prop} {l0 : Nat} {l1 : Int32} {l2 : Int32}  {K54 : Int32 × Mem → Prop} {K67 : Int32 × Mem → Prop} {σ : Mem} (C : Cx p s m args meth c cX12_readClasses RX12 6 D tc b0) (hr : meth.sig.returnType = (some FieldType.boolean)) (hK54 : ∀ (x1 : Int32) (σ : Mem) (H : Heap) (locs : List Loc) (ls : Array Slot), va_S (AA b0) s.heap H locs → Wd G D tc b0 σ H → hL b0 ls 6 [some (.inr (.inr l0)), some (.inl x1), none, none, none, none] → K54 (x1, σ) → W p l e rm_X12_readClasses s m args below meth c H locs 0 0 (MQ below (va_Qi Qx (fun u t => Pw G D tc b0 u t) (AA b0)) args s 0 0 (AA b0)) (F0 m 54 ls [])) (hK67 : ∀ (x2 : Int32) (σ : Mem) (H : Heap) (locs : List Loc) (ls : Array Slot), va_S (AA b0) s.heap H locs → Wd G D tc b0 σ H → hL b0 ls 6 [some (.inr (.inr l0)), some (.inl l1), some (.inl x2), none, none, none] → K67 (x2, σ) → W p l e rm_X12_readClasses s m args below meth c H locs 0 0 (MQ below (va_Qi Qx (fun u t => Pw G D tc b0 u t) (AA b0)) args s 0 0 (AA b0)) (F0 m 67 ls [])) (hS : va_S (AA b0) s.heap H locs) (hW : Wd G D tc b0 σ H) (hl : hL b0 ls 6 [some (.inr (.inr l0)), some (.inl l1), some (.inl l2), none, none, none]) (h : X_X12_readClasses_132 G Qx K54 K67 l0 l1 l2  σ) : W p l e rm_X12_readClasses s m args below meth c H locs 0 0 (MQ below (va_Qi Qx (fun u t => Pw G D tc b0 u t) (AA b0)) args s 0 0 (AA b0)) (F0 m 132 ls []) := by
  have hx := C.1
  have hb := C.2.1
  unfold X_X12_readClasses_132 at h
  refine x_iinc C hl dX12_readClasses_132 rfl (v := (1 : Int32)) (by decide) (by decide) rfl (fun ls hl => ?_)
  refine lv_goto hx hb dX12_readClasses_135 (tgt := 67) rfl ?_
  exact hK67 _ _ _ _ _ hS hW (hl.keep [true, true, true, false, false, false] rfl) h
set_option maxRecDepth 20000 in
set_option maxHeartbeats 4000000 in
theorem t_X12_readClasses_67_n {p : Program} {l : Launch} {e : Env} {s : State} {m : MethodId} {args : Array Value} {below : List Frame} {meth : Method} {c : Code} {D : va_G} {tc : Nat → ClassId} {b0 : Nat} {G : Lay} {Qx : Int32 → Mem → Prop} {l0 : Nat} {l1 : Int32} {K54 : Int32 × Mem → Prop} (C : Cx p s m args meth c cX12_readClasses RX12 6 D tc b0) (hr : meth.sig.returnType = (some FieldType.boolean)) (hK54 : ∀ (x1 : Int32) (σ : Mem) (H : Heap) (locs : List Loc) (ls : Array Slot), va_S (AA b0) s.heap H locs → Wd G D tc b0 σ H → hL b0 ls 6 [some (.inr (.inr l0)), some (.inl x1), none, none, none, none] → K54 (x1, σ) → W p l e rm_X12_readClasses s m args below meth c H locs 0 0 (MQ below (va_Qi Qx (fun u t => Pw G D tc b0 u t) (AA b0)) args s 0 0 (AA b0)) (F0 m 54 ls [])) (n : Nat) : ∀ (l2 : Int32) (σ : Mem) (H : Heap) (locs : List Loc) (ls : Array Slot), va_S (AA b0) s.heap H locs → Wd G D tc b0 σ H → hL b0 ls 6 [some (.inr (.inr l0)), some (.inl l1), some (.inl l2), none, none, none] → Lp (X_X12_readClasses_67_s G Qx K54 l0 l1) n (l2, σ) → W p l e rm_X12_readClasses s m args below meth c H locs 0 0 (MQ below (va_Qi Qx (fun u t => Pw G D tc b0 u t) (AA b0)) args s 0 0 (AA b0)) (F0 m 67 ls []) := by
  have hx := C.1
  have hb := C.2.1
  induction n with
  | zero => intro l2 σ H locs ls hS hW hl h; exact False.elim h
  | succ n hK67 =>
    intro l2 σ H locs ls hS hW hl h
    replace h : X_X12_readClasses_67_s G Qx K54 l0 l1 (Lp (X_X12_readClasses_67_s G Qx K54 l0 l1) n) (l2, σ) := h
    unfold X_X12_readClasses_67_s at h
    refine x_iload_n C hl dX12_readClasses_67 rfl ?_
    refine x_aload_n C hl dX12_readClasses_68 rfl ?_
    have t1 := h.1
    replace h := h.2
    refine x_get C hW (t := 12) (k := 6) t1 kl_12 (by decide) fl_X12_23 (v := rv b0 (mR σ l0 6)) rfl dX12_readClasses_69 ?_
    refine x_iload_n C hl dX12_readClasses_72 rfl ?_
    have t2 := h.1
    replace h := h.2
    have v3 := h.1
    replace h := h.2
    refine x_iald C hW t2 v3 dX12_readClasses_73 ?_
    refine lv_icmp_ge hx hb dX12_readClasses_74 (tgt := 138) rfl (fun hc => ?_) (fun hc => ?_)
    · replace h := h.1 hc
      refine x_iinc C hl dX12_readClasses_138 rfl (v := (1 : Int32)) (by decide) (by decide) rfl (fun ls hl => ?_)
      refine lv_goto hx hb dX12_readClasses_141 (tgt := 54) rfl ?_
      exact hK54 _ _ _ _ _ hS hW (hl.keep [true, true, false, false, false, false] rfl) h
    · replace h := h.2 hc
      refine lv_bipush (v := (16 : Int32)) hx hb dX12_readClasses_77 (by decide) ?_
      refine x_iload_n C hl dX12_readClasses_79 rfl ?_
      refine lv_imul hx hb dX12_readClasses_80 ?_
      refine x_iload_n C hl dX12_readClasses_81 rfl ?_
      refine lv_iadd hx hb dX12_readClasses_82 ?_
      refine x_istore_n C hl dX12_readClasses_83 (by decide) rfl (fun ls hl => ?_)
      refine x_aload_n C hl dX12_readClasses_84 rfl ?_
      refine x_get C hW (t := 12) (k := 15) t1 kl_12 (by decide) fl_X12_50 (v := rv b0 (mR σ l0 15)) rfl dX12_readClasses_85 ?_
      refine x_iload_n C hl dX12_readClasses_88 rfl ?_
      have t4 := h.1
      replace h := h.2
      have v5 := h.1
      replace h := h.2
      refine x_iald C hW t4 v5 dX12_readClasses_89 ?_
      refine x_iload_n C hl dX12_readClasses_90 rfl ?_
      refine lv_bipush (v := (13 : Int32)) hx hb dX12_readClasses_91 (by decide) ?_
      refine lv_isub hx hb dX12_readClasses_93 ?_
      refine lv_icmp_ne hx hb dX12_readClasses_94 (tgt := 132) rfl (fun hc => ?_) (fun hc => ?_)
      · replace h := h.2 hc
        exact t_X12_readClasses_132 C hr hK54 hK67 hS hW (hl.keep [true, true, true, false, false, false] rfl) h
      · replace h := h.1 hc
        refine x_aload_n C hl dX12_readClasses_97 rfl ?_
        refine x_get C hW (t := 12) (k := 9) t1 kl_12 (by decide) fl_X12_32 (v := rv b0 (mR σ l0 9)) rfl dX12_readClasses_98 ?_
        refine x_iload_n C hl dX12_readClasses_101 rfl ?_
        have t6 := h.1
        replace h := h.2
        have v7 := h.1
        replace h := h.2
        refine x_iald C hW t6 v7 dX12_readClasses_102 ?_
        refine lv_iconst (v := (4 : Int32)) hx hb dX12_readClasses_103 (by decide) ?_
        refine lv_icmp_ge hx hb dX12_readClasses_104 (tgt := 110) rfl (fun hc => ?_) (fun hc => ?_)
        · replace h := h.1 hc
          refine x_aload_n C hl dX12_readClasses_110 rfl ?_
          refine x_get C hW (t := 12) (k := 10) t1 kl_12 (by decide) fl_X12_35 (v := rv b0 (mR σ l0 10)) rfl dX12_readClasses_111 ?_
          refine x_iload_n C hl dX12_readClasses_114 rfl ?_
          refine x_aload_n C hl dX12_readClasses_115 rfl ?_
          refine lv_bipush (v := (13 : Int32)) hx hb dX12_readClasses_116 (by decide) ?_
          refine x_aload_n C hl dX12_readClasses_118 rfl ?_
          refine x_get C hW (t := 12) (k := 56) t1 kl_12 (by decide) fl_X12_291 (v := .int (mI σ l0 56)) rfl dX12_readClasses_119 ?_
          refine x_aload_n C hl dX12_readClasses_122 rfl ?_
          refine x_get C hW (t := 12) (k := 16) t1 kl_12 (by decide) fl_X12_53 (v := rv b0 (mR σ l0 16)) rfl dX12_readClasses_123 ?_
          refine x_iload_n C hl dX12_readClasses_126 rfl ?_
          have t8 := h.1
          replace h := h.2
          have v9 := h.1
          replace h := h.2
          refine x_lald C hW t8 v9 dX12_readClasses_127 ?_
          refine y_i (x_run (As := [.int (13 : Int32), .int (mI σ l0 56), .long (mJ σ (mR σ l0 16) (((16 : Int32) * l1) + l2).toNatClampNeg)]) C hW hS (T_X12_classNamed l l0 (13 : Int32) (mI σ l0 56) (mJ σ (mR σ l0 16) (((16 : Int32) * l1) + l2).toNatClampNeg) σ _ h) t1 kl_12 (CW.of yv_X12_classNamed ml_X12_303) ⟨rfl, rfl, ⟨by decide, by decide⟩, by decide, by decide⟩ rfl hl.1 rfl (by simp [rv_cat, cat_i, cat_l]) dX12_readClasses_128) hS (fun w11 s10 H locs h hW hS => ?_)
          have t12 := h.1
          replace h := h.2
          have v13 := h.1
          replace h := h.2
          refine x_iast C hW hS t12 v13 dX12_readClasses_131 (fun H locs hW hS => ?_)
          obtain ⟨s14, e_s14⟩ : ∃ z : Mem, z = (sI s10 (mR σ l0 10) (((16 : Int32) * l1) + l2).toNatClampNeg w11) := ⟨_, rfl⟩
          replace h := h s14 e_s14
          replace hW : Wd G D tc b0 s14 H := by rw [e_s14]; exact hW
          exact t_X12_readClasses_132 C hr hK54 hK67 hS hW (hl.keep [true, true, true, false, false, false] rfl) h
        · replace h := h.2 hc
          refine lv_goto hx hb dX12_readClasses_107 (tgt := 132) rfl ?_
          exact t_X12_readClasses_132 C hr hK54 hK67 hS hW (hl.keep [true, true, true, false, false, false] rfl) h
set_option maxRecDepth 20000 in
set_option maxHeartbeats 4000000 in
theorem t_X12_readClasses_67 {p : Program} {l : Launch} {e : Env} {s : State} {m : MethodId} {args : Array Value} {below : List Frame} {meth : Method} {c : Code} {H : Heap} {locs : List Loc} {D : va_G} {tc : Nat → ClassId} {b0 : Nat} {ls : Array Slot} {G : Lay} {Qx : Int32 → Mem → Prop} {l0 : Nat} {l1 : Int32} {l2 : Int32}  {K54 : Int32 × Mem → Prop} {σ : Mem} (C : Cx p s m args meth c cX12_readClasses RX12 6 D tc b0) (hr : meth.sig.returnType = (some FieldType.boolean)) (hK54 : ∀ (x1 : Int32) (σ : Mem) (H : Heap) (locs : List Loc) (ls : Array Slot), va_S (AA b0) s.heap H locs → Wd G D tc b0 σ H → hL b0 ls 6 [some (.inr (.inr l0)), some (.inl x1), none, none, none, none] → K54 (x1, σ) → W p l e rm_X12_readClasses s m args below meth c H locs 0 0 (MQ below (va_Qi Qx (fun u t => Pw G D tc b0 u t) (AA b0)) args s 0 0 (AA b0)) (F0 m 54 ls [])) (hS : va_S (AA b0) s.heap H locs) (hW : Wd G D tc b0 σ H) (hl : hL b0 ls 6 [some (.inr (.inr l0)), some (.inl l1), some (.inl l2), none, none, none]) (h : X_X12_readClasses_67 G Qx K54 l0 l1 l2 σ) : W p l e rm_X12_readClasses s m args below meth c H locs 0 0 (MQ below (va_Qi Qx (fun u t => Pw G D tc b0 u t) (AA b0)) args s 0 0 (AA b0)) (F0 m 67 ls []) := by
  obtain ⟨n, h⟩ := h
  exact t_X12_readClasses_67_n C hr hK54 n l2 σ H locs ls hS hW hl h
set_option maxRecDepth 20000 in
set_option maxHeartbeats 4000000 in
theorem t_X12_readClasses_160_n {p : Program} {l : Launch} {e : Env} {s : State} {m : MethodId} {args : Array Value} {below : List Frame} {meth : Method} {c : Code} {D : va_G} {tc : Nat → ClassId} {b0 : Nat} {G : Lay} {Qx : Int32 → Mem → Prop} {l0 : Nat} {l1 : Int32} {K147 : Int32 × Mem → Prop} (C : Cx p s m args meth c cX12_readClasses RX12 6 D tc b0) (hr : meth.sig.returnType = (some FieldType.boolean)) (hK147 : ∀ (x1 : Int32) (σ : Mem) (H : Heap) (locs : List Loc) (ls : Array Slot), va_S (AA b0) s.heap H locs → Wd G D tc b0 σ H → hL b0 ls 6 [some (.inr (.inr l0)), some (.inl x1), none, none, none, none] → K147 (x1, σ) → W p l e rm_X12_readClasses s m args below meth c H locs 0 0 (MQ below (va_Qi Qx (fun u t => Pw G D tc b0 u t) (AA b0)) args s 0 0 (AA b0)) (F0 m 147 ls [])) (n : Nat) : ∀ (l2 : Int32) (σ : Mem) (H : Heap) (locs : List Loc) (ls : Array Slot), va_S (AA b0) s.heap H locs → Wd G D tc b0 σ H → hL b0 ls 6 [some (.inr (.inr l0)), some (.inl l1), some (.inl l2), none, none, none] → Lp (X_X12_readClasses_160_s G Qx K147 l0 l1) n (l2, σ) → W p l e rm_X12_readClasses s m args below meth c H locs 0 0 (MQ below (va_Qi Qx (fun u t => Pw G D tc b0 u t) (AA b0)) args s 0 0 (AA b0)) (F0 m 160 ls []) := by
  have hx := C.1
  have hb := C.2.1
  induction n with
  | zero => intro l2 σ H locs ls hS hW hl h; exact False.elim h
  | succ n hK160 =>
    intro l2 σ H locs ls hS hW hl h
    replace h : X_X12_readClasses_160_s G Qx K147 l0 l1 (Lp (X_X12_readClasses_160_s G Qx K147 l0 l1) n) (l2, σ) := h
    unfold X_X12_readClasses_160_s at h
    refine x_iload_n C hl dX12_readClasses_160 rfl ?_
    refine x_aload_n C hl dX12_readClasses_161 rfl ?_
    have t1 := h.1
    replace h := h.2
    refine x_get C hW (t := 12) (k := 6) t1 kl_12 (by decide) fl_X12_23 (v := rv b0 (mR σ l0 6)) rfl dX12_readClasses_162 ?_
    refine x_iload_n C hl dX12_readClasses_165 rfl ?_
    have t2 := h.1
    replace h := h.2
    have v3 := h.1
    replace h := h.2
    refine x_iald C hW t2 v3 dX12_readClasses_166 ?_
    refine lv_icmp_ge hx hb dX12_readClasses_167 (tgt := 182) rfl (fun hc => ?_) (fun hc => ?_)
    · replace h := h.1 hc
      refine x_iinc C hl dX12_readClasses_182 rfl (v := (1 : Int32)) (by decide) (by decide) rfl (fun ls hl => ?_)
      refine lv_goto hx hb dX12_readClasses_185 (tgt := 147) rfl ?_
      exact hK147 _ _ _ _ _ hS hW (hl.keep [true, true, false, false, false, false] rfl) h
    · replace h := h.2 hc
      refine x_aload_n C hl dX12_readClasses_170 rfl ?_
      refine x_iload_n C hl dX12_readClasses_171 rfl ?_
      refine x_iload_n C hl dX12_readClasses_172 rfl ?_
      refine y_v (x_run (As := [.int l1, .int l2]) C hW hS (T_X12_copyMeant l l0 l1 l2 σ _ h) t1 kl_12 (CW.of yv_X12_copyMeant ml_X12_307) ⟨rfl, rfl, ⟨by decide, by decide⟩, by decide, by decide⟩ rfl hl.1 rfl (by decide) dX12_readClasses_173) hS (fun s4 H locs h hW hS => ?_)
      refine x_iinc C hl dX12_readClasses_176 rfl (v := (1 : Int32)) (by decide) (by decide) rfl (fun ls hl => ?_)
      refine lv_goto hx hb dX12_readClasses_179 (tgt := 160) rfl ?_
      exact hK160 _ _ _ _ _ hS hW (hl.keep [true, true, true, false, false, false] rfl) h
set_option maxRecDepth 20000 in
set_option maxHeartbeats 4000000 in
theorem t_X12_readClasses_160 {p : Program} {l : Launch} {e : Env} {s : State} {m : MethodId} {args : Array Value} {below : List Frame} {meth : Method} {c : Code} {H : Heap} {locs : List Loc} {D : va_G} {tc : Nat → ClassId} {b0 : Nat} {ls : Array Slot} {G : Lay} {Qx : Int32 → Mem → Prop} {l0 : Nat} {l1 : Int32} {l2 : Int32}  {K147 : Int32 × Mem → Prop} {σ : Mem} (C : Cx p s m args meth c cX12_readClasses RX12 6 D tc b0) (hr : meth.sig.returnType = (some FieldType.boolean)) (hK147 : ∀ (x1 : Int32) (σ : Mem) (H : Heap) (locs : List Loc) (ls : Array Slot), va_S (AA b0) s.heap H locs → Wd G D tc b0 σ H → hL b0 ls 6 [some (.inr (.inr l0)), some (.inl x1), none, none, none, none] → K147 (x1, σ) → W p l e rm_X12_readClasses s m args below meth c H locs 0 0 (MQ below (va_Qi Qx (fun u t => Pw G D tc b0 u t) (AA b0)) args s 0 0 (AA b0)) (F0 m 147 ls [])) (hS : va_S (AA b0) s.heap H locs) (hW : Wd G D tc b0 σ H) (hl : hL b0 ls 6 [some (.inr (.inr l0)), some (.inl l1), some (.inl l2), none, none, none]) (h : X_X12_readClasses_160 G Qx K147 l0 l1 l2 σ) : W p l e rm_X12_readClasses s m args below meth c H locs 0 0 (MQ below (va_Qi Qx (fun u t => Pw G D tc b0 u t) (AA b0)) args s 0 0 (AA b0)) (F0 m 160 ls []) := by
  obtain ⟨n, h⟩ := h
  exact t_X12_readClasses_160_n C hr hK147 n l2 σ H locs ls hS hW hl h
set_option maxRecDepth 20000 in
set_option maxHeartbeats 4000000 in
theorem t_X12_readClasses_369 {p : Program} {l : Launch} {e : Env} {s : State} {m : MethodId} {args : Array Value} {below : List Frame} {meth : Method} {c : Code} {H : Heap} {locs : List Loc} {D : va_G} {tc : Nat → ClassId} {b0 : Nat} {ls : Array Slot} {G : Lay} {Qx : Int32 → Mem → Prop} {l0 : Nat} {l3 : Int32}  {σ : Mem} (C : Cx p s m args meth c cX12_readClasses RX12 6 D tc b0) (hr : meth.sig.returnType = (some FieldType.boolean)) (hS : va_S (AA b0) s.heap H locs) (hW : Wd G D tc b0 σ H) (hl : hL b0 ls 6 [some (.inr (.inr l0)), none, none, some (.inl l3), none, none]) (h : X_X12_readClasses_369 G Qx l0 l3  σ) : W p l e rm_X12_readClasses s m args below meth c H locs 0 0 (MQ below (va_Qi Qx (fun u t => Pw G D tc b0 u t) (AA b0)) args s 0 0 (AA b0)) (F0 m 369 ls []) := by
  have hx := C.1
  have hb := C.2.1
  unfold X_X12_readClasses_369 at h
  refine x_aload_n C hl dX12_readClasses_369 rfl ?_
  refine x_aload_n C hl dX12_readClasses_370 rfl ?_
  have t1 := h.1
  replace h := h.2
  refine x_get C hW (t := 12) (k := 19) t1 kl_12 (by decide) fl_X12_62 (v := rv b0 (mR σ l0 19)) rfl dX12_readClasses_371 ?_
  refine x_iload_n C hl dX12_readClasses_374 rfl ?_
  have t2 := h.1
  replace h := h.2
  have v3 := h.1
  replace h := h.2
  refine x_iald C hW t2 v3 dX12_readClasses_375 ?_
  refine x_putI C hW hS (t := 12) (k := 49) t1 kl_12 (by decide) fl_X12_237 rfl rfl rfl rfl dX12_readClasses_376 (fun H locs hW hS => ?_)
  obtain ⟨s4, e_s4⟩ : ∃ z : Mem, z = (sI σ l0 49 (mI σ (mR σ l0 19) l3.toNatClampNeg)) := ⟨_, rfl⟩
  replace h := h s4 e_s4
  replace hW : Wd G D tc b0 s4 H := by rw [e_s4]; exact hW
  refine x_aload_n C hl dX12_readClasses_379 rfl ?_
  refine lv_iconst (v := (5 : Int32)) hx hb dX12_readClasses_380 (by decide) ?_
  refine y_i (x_run (As := [.int (5 : Int32)]) C hW hS (T_X12_fails l l0 (5 : Int32) s4 _ h) t1 kl_12 (CW.of yv_X12_fails ml_X12_261) ⟨rfl, rfl, ⟨by decide, by decide⟩, by decide, by decide⟩ rfl hl.1 rfl (by decide) dX12_readClasses_381) hS (fun w6 s5 H locs h hW hS => ?_)
  exact r_z C hr hW hS h.1 h.2 dX12_readClasses_384
set_option maxRecDepth 20000 in
set_option maxHeartbeats 4000000 in
theorem t_X12_readClasses_393 {p : Program} {l : Launch} {e : Env} {s : State} {m : MethodId} {args : Array Value} {below : List Frame} {meth : Method} {c : Code} {H : Heap} {locs : List Loc} {D : va_G} {tc : Nat → ClassId} {b0 : Nat} {ls : Array Slot} {G : Lay} {Qx : Int32 → Mem → Prop} {l0 : Nat} {l1 : Int32} {l2 : Int32}  {K191 : Int32 × Mem → Prop} {K204 : Int32 × Mem → Prop} {σ : Mem} (C : Cx p s m args meth c cX12_readClasses RX12 6 D tc b0) (hr : meth.sig.returnType = (some FieldType.boolean)) (hK191 : ∀ (x1 : Int32) (σ : Mem) (H : Heap) (locs : List Loc) (ls : Array Slot), va_S (AA b0) s.heap H locs → Wd G D tc b0 σ H → hL b0 ls 6 [some (.inr (.inr l0)), some (.inl x1), none, none, none, none] → K191 (x1, σ) → W p l e rm_X12_readClasses s m args below meth c H locs 0 0 (MQ below (va_Qi Qx (fun u t => Pw G D tc b0 u t) (AA b0)) args s 0 0 (AA b0)) (F0 m 191 ls [])) (hK204 : ∀ (x2 : Int32) (σ : Mem) (H : Heap) (locs : List Loc) (ls : Array Slot), va_S (AA b0) s.heap H locs → Wd G D tc b0 σ H → hL b0 ls 6 [some (.inr (.inr l0)), some (.inl l1), some (.inl x2), none, none, none] → K204 (x2, σ) → W p l e rm_X12_readClasses s m args below meth c H locs 0 0 (MQ below (va_Qi Qx (fun u t => Pw G D tc b0 u t) (AA b0)) args s 0 0 (AA b0)) (F0 m 204 ls [])) (hS : va_S (AA b0) s.heap H locs) (hW : Wd G D tc b0 σ H) (hl : hL b0 ls 6 [some (.inr (.inr l0)), some (.inl l1), some (.inl l2), none, none, none]) (h : X_X12_readClasses_393 G Qx K191 K204 l0 l1 l2  σ) : W p l e rm_X12_readClasses s m args below meth c H locs 0 0 (MQ below (va_Qi Qx (fun u t => Pw G D tc b0 u t) (AA b0)) args s 0 0 (AA b0)) (F0 m 393 ls []) := by
  have hx := C.1
  have hb := C.2.1
  unfold X_X12_readClasses_393 at h
  refine x_iinc C hl dX12_readClasses_393 rfl (v := (1 : Int32)) (by decide) (by decide) rfl (fun ls hl => ?_)
  refine lv_goto hx hb dX12_readClasses_396 (tgt := 204) rfl ?_
  exact hK204 _ _ _ _ _ hS hW (hl.keep [true, true, true, false, false, false] rfl) h
set_option maxRecDepth 20000 in
set_option maxHeartbeats 4000000 in
theorem t_X12_readClasses_204_n {p : Program} {l : Launch} {e : Env} {s : State} {m : MethodId} {args : Array Value} {below : List Frame} {meth : Method} {c : Code} {D : va_G} {tc : Nat → ClassId} {b0 : Nat} {G : Lay} {Qx : Int32 → Mem → Prop} {l0 : Nat} {l1 : Int32} {K191 : Int32 × Mem → Prop} (C : Cx p s m args meth c cX12_readClasses RX12 6 D tc b0) (hr : meth.sig.returnType = (some FieldType.boolean)) (hK191 : ∀ (x1 : Int32) (σ : Mem) (H : Heap) (locs : List Loc) (ls : Array Slot), va_S (AA b0) s.heap H locs → Wd G D tc b0 σ H → hL b0 ls 6 [some (.inr (.inr l0)), some (.inl x1), none, none, none, none] → K191 (x1, σ) → W p l e rm_X12_readClasses s m args below meth c H locs 0 0 (MQ below (va_Qi Qx (fun u t => Pw G D tc b0 u t) (AA b0)) args s 0 0 (AA b0)) (F0 m 191 ls [])) (n : Nat) : ∀ (l2 : Int32) (σ : Mem) (H : Heap) (locs : List Loc) (ls : Array Slot), va_S (AA b0) s.heap H locs → Wd G D tc b0 σ H → hL b0 ls 6 [some (.inr (.inr l0)), some (.inl l1), some (.inl l2), none, none, none] → Lp (X_X12_readClasses_204_s G Qx K191 l0 l1) n (l2, σ) → W p l e rm_X12_readClasses s m args below meth c H locs 0 0 (MQ below (va_Qi Qx (fun u t => Pw G D tc b0 u t) (AA b0)) args s 0 0 (AA b0)) (F0 m 204 ls []) := by
  have hx := C.1
  have hb := C.2.1
  induction n with
  | zero => intro l2 σ H locs ls hS hW hl h; exact False.elim h
  | succ n hK204 =>
    intro l2 σ H locs ls hS hW hl h
    replace h : X_X12_readClasses_204_s G Qx K191 l0 l1 (Lp (X_X12_readClasses_204_s G Qx K191 l0 l1) n) (l2, σ) := h
    unfold X_X12_readClasses_204_s at h
    refine x_iload_n C hl dX12_readClasses_204 rfl ?_
    refine x_aload_n C hl dX12_readClasses_205 rfl ?_
    have t1 := h.1
    replace h := h.2
    refine x_get C hW (t := 12) (k := 6) t1 kl_12 (by decide) fl_X12_23 (v := rv b0 (mR σ l0 6)) rfl dX12_readClasses_206 ?_
    refine x_iload_n C hl dX12_readClasses_209 rfl ?_
    have t2 := h.1
    replace h := h.2
    have v3 := h.1
    replace h := h.2
    refine x_iald C hW t2 v3 dX12_readClasses_210 ?_
    refine lv_icmp_ge hx hb dX12_readClasses_211 (tgt := 399) rfl (fun hc => ?_) (fun hc => ?_)
    · replace h := h.1 hc
      refine x_iinc C hl dX12_readClasses_399 rfl (v := (1 : Int32)) (by decide) (by decide) rfl (fun ls hl => ?_)
      refine lv_goto hx hb dX12_readClasses_402 (tgt := 191) rfl ?_
      exact hK191 _ _ _ _ _ hS hW (hl.keep [true, true, false, false, false, false] rfl) h
    · replace h := h.2 hc
      refine lv_bipush (v := (16 : Int32)) hx hb dX12_readClasses_214 (by decide) ?_
      refine x_iload_n C hl dX12_readClasses_216 rfl ?_
      refine lv_imul hx hb dX12_readClasses_217 ?_
      refine x_iload_n C hl dX12_readClasses_218 rfl ?_
      refine lv_iadd hx hb dX12_readClasses_219 ?_
      refine x_istore_n C hl dX12_readClasses_220 (by decide) rfl (fun ls hl => ?_)
      refine x_aload_n C hl dX12_readClasses_221 rfl ?_
      refine x_get C hW (t := 12) (k := 9) t1 kl_12 (by decide) fl_X12_32 (v := rv b0 (mR σ l0 9)) rfl dX12_readClasses_222 ?_
      refine x_iload_n C hl dX12_readClasses_225 rfl ?_
      have t4 := h.1
      replace h := h.2
      have v5 := h.1
      replace h := h.2
      refine x_iald C hW t4 v5 dX12_readClasses_226 ?_
      refine lv_iconst (v := (4 : Int32)) hx hb dX12_readClasses_227 (by decide) ?_
      refine lv_icmp_lt hx hb dX12_readClasses_228 (tgt := 393) rfl (fun hc => ?_) (fun hc => ?_)
      · replace h := h.1 hc
        exact t_X12_readClasses_393 C hr hK191 hK204 hS hW (hl.keep [true, true, true, false, false, false] rfl) h
      · replace h := h.2 hc
        refine x_aload_n C hl dX12_readClasses_231 rfl ?_
        refine x_get C hW (t := 12) (k := 15) t1 kl_12 (by decide) fl_X12_50 (v := rv b0 (mR σ l0 15)) rfl dX12_readClasses_232 ?_
        refine x_iload_n C hl dX12_readClasses_235 rfl ?_
        have t6 := h.1
        replace h := h.2
        have v7 := h.1
        replace h := h.2
        refine x_iald C hW t6 v7 dX12_readClasses_236 ?_
        refine x_iload_n C hl dX12_readClasses_237 rfl ?_
        refine lv_bipush (v := (13 : Int32)) hx hb dX12_readClasses_238 (by decide) ?_
        refine lv_isub hx hb dX12_readClasses_240 ?_
        refine lv_icmp_eq hx hb dX12_readClasses_241 (tgt := 247) rfl (fun hc => ?_) (fun hc => ?_)
        · replace h := h.1 hc
          refine x_aload_n C hl dX12_readClasses_247 rfl ?_
          refine x_get C hW (t := 12) (k := 10) t1 kl_12 (by decide) fl_X12_35 (v := rv b0 (mR σ l0 10)) rfl dX12_readClasses_248 ?_
          refine x_iload_n C hl dX12_readClasses_251 rfl ?_
          have t8 := h.1
          replace h := h.2
          have v9 := h.1
          replace h := h.2
          refine x_iald C hW t8 v9 dX12_readClasses_252 ?_
          refine lv_if_ge hx hb dX12_readClasses_253 (tgt := 272) rfl (fun hc => ?_) (fun hc => ?_)
          · replace h := h.1 hc
            refine x_aload_n C hl dX12_readClasses_272 rfl ?_
            refine x_get C hW (t := 12) (k := 9) t1 kl_12 (by decide) fl_X12_32 (v := rv b0 (mR σ l0 9)) rfl dX12_readClasses_273 ?_
            refine x_iload_n C hl dX12_readClasses_276 rfl ?_
            refine x_iald C hW t4 v5 dX12_readClasses_277 ?_
            refine lv_iconst (v := (4 : Int32)) hx hb dX12_readClasses_278 (by decide) ?_
            refine lv_icmp_ne hx hb dX12_readClasses_279 (tgt := 285) rfl (fun hc => ?_) (fun hc => ?_)
            · replace h := h.2 hc
              refine x_aload_n C hl dX12_readClasses_285 rfl ?_
              refine lv_bipush (v := (13 : Int32)) hx hb dX12_readClasses_286 (by decide) ?_
              refine x_aload_n C hl dX12_readClasses_288 rfl ?_
              refine x_get C hW (t := 12) (k := 10) t1 kl_12 (by decide) fl_X12_35 (v := rv b0 (mR σ l0 10)) rfl dX12_readClasses_289 ?_
              refine x_iload_n C hl dX12_readClasses_292 rfl ?_
              refine x_iald C hW t8 v9 dX12_readClasses_293 ?_
              refine lv_iadd hx hb dX12_readClasses_294 ?_
              refine x_aload_n C hl dX12_readClasses_295 rfl ?_
              refine x_get C hW (t := 12) (k := 18) t1 kl_12 (by decide) fl_X12_59 (v := rv b0 (mR σ l0 18)) rfl dX12_readClasses_296 ?_
              refine x_iload_n C hl dX12_readClasses_299 rfl ?_
              have t10 := h.1
              replace h := h.2
              have v11 := h.1
              replace h := h.2
              refine x_lald C hW t10 v11 dX12_readClasses_300 ?_
              refine y_i (x_run (As := [.int ((13 : Int32) + (mI σ (mR σ l0 10) (((16 : Int32) * l1) + l2).toNatClampNeg)), .long (mJ σ (mR σ l0 18) (((16 : Int32) * l1) + l2).toNatClampNeg)]) C hW hS (T_X12_memberNamed l l0 ((13 : Int32) + (mI σ (mR σ l0 10) (((16 : Int32) * l1) + l2).toNatClampNeg)) (mJ σ (mR σ l0 18) (((16 : Int32) * l1) + l2).toNatClampNeg) σ _ h) t1 kl_12 (CW.of yv_X12_memberNamed ml_X12_311) ⟨rfl, rfl, ⟨by decide, by decide⟩, by decide, by decide⟩ rfl hl.1 rfl (by decide) dX12_readClasses_301) hS (fun w13 s12 H locs h hW hS => ?_)
              refine x_istore C hl dX12_readClasses_304 (by decide) rfl (fun ls hl => ?_)
              refine lv_bipush (v := (16 : Int32)) hx hb dX12_readClasses_306 (by decide) ?_
              refine lv_bipush (v := (13 : Int32)) hx hb dX12_readClasses_308 (by decide) ?_
              refine x_aload_n C hl dX12_readClasses_310 rfl ?_
              refine x_get C hW (t := 12) (k := 10) t1 kl_12 (by decide) fl_X12_35 (v := rv b0 (mR s12 l0 10)) rfl dX12_readClasses_311 ?_
              refine x_iload_n C hl dX12_readClasses_314 rfl ?_
              have t14 := h.1
              replace h := h.2
              have v15 := h.1
              replace h := h.2
              refine x_iald C hW t14 v15 dX12_readClasses_315 ?_
              refine lv_iadd hx hb dX12_readClasses_316 ?_
              refine lv_imul hx hb dX12_readClasses_317 ?_
              refine x_iload C hl dX12_readClasses_318 rfl ?_
              refine lv_iadd hx hb dX12_readClasses_320 ?_
              refine x_istore C hl dX12_readClasses_321 (by decide) rfl (fun ls hl => ?_)
              refine x_iload C hl dX12_readClasses_323 rfl ?_
              refine lv_if_lt hx hb dX12_readClasses_325 (tgt := 369) rfl (fun hc => ?_) (fun hc => ?_)
              · replace h := h.1 hc
                exact t_X12_readClasses_369 C hr hS hW (hl.keep [true, false, false, true, false, false] rfl) h
              · replace h := h.2 hc
                refine x_aload_n C hl dX12_readClasses_328 rfl ?_
                refine x_get C hW (t := 12) (k := 9) t1 kl_12 (by decide) fl_X12_32 (v := rv b0 (mR s12 l0 9)) rfl dX12_readClasses_329 ?_
                refine x_iload C hl dX12_readClasses_332 rfl ?_
                have t16 := h.1
                replace h := h.2
                have v17 := h.1
                replace h := h.2
                refine x_iald C hW t16 v17 dX12_readClasses_334 ?_
                refine lv_iconst (v := (4 : Int32)) hx hb dX12_readClasses_335 (by decide) ?_
                refine lv_icmp_ne hx hb dX12_readClasses_336 (tgt := 369) rfl (fun hc => ?_) (fun hc => ?_)
                · replace h := h.2 hc
                  exact t_X12_readClasses_369 C hr hS hW (hl.keep [true, false, false, true, false, false] rfl) h
                · replace h := h.1 hc
                  refine x_aload_n C hl dX12_readClasses_339 rfl ?_
                  refine x_get C hW (t := 12) (k := 10) t1 kl_12 (by decide) fl_X12_35 (v := rv b0 (mR s12 l0 10)) rfl dX12_readClasses_340 ?_
                  refine x_iload C hl dX12_readClasses_343 rfl ?_
                  have v18 := h.1
                  replace h := h.2
                  refine x_iald C hW t14 v18 dX12_readClasses_345 ?_
                  refine lv_if_lt hx hb dX12_readClasses_346 (tgt := 369) rfl (fun hc => ?_) (fun hc => ?_)
                  · replace h := h.1 hc
                    exact t_X12_readClasses_369 C hr hS hW (hl.keep [true, false, false, true, false, false] rfl) h
                  · replace h := h.2 hc
                    refine x_aload_n C hl dX12_readClasses_349 rfl ?_
                    refine lv_bipush (v := (13 : Int32)) hx hb dX12_readClasses_350 (by decide) ?_
                    refine x_iload_n C hl dX12_readClasses_352 rfl ?_
                    refine lv_bipush (v := (13 : Int32)) hx hb dX12_readClasses_353 (by decide) ?_
                    refine lv_isub hx hb dX12_readClasses_355 ?_
                    refine x_aload_n C hl dX12_readClasses_356 rfl ?_
                    refine x_get C hW (t := 12) (k := 10) t1 kl_12 (by decide) fl_X12_35 (v := rv b0 (mR s12 l0 10)) rfl dX12_readClasses_357 ?_
                    refine x_iload C hl dX12_readClasses_360 rfl ?_
                    refine x_iald C hW t14 v18 dX12_readClasses_362 ?_
                    refine y_i (x_run (As := [.int (13 : Int32), .int (l1 - (13 : Int32)), .int (mI s12 (mR s12 l0 10) (((16 : Int32) * ((13 : Int32) + (mI s12 (mR s12 l0 10) (((16 : Int32) * l1) + l2).toNatClampNeg))) + w13).toNatClampNeg)]) C hW hS (T_X12_isA l l0 (13 : Int32) (l1 - (13 : Int32)) (mI s12 (mR s12 l0 10) (((16 : Int32) * ((13 : Int32) + (mI s12 (mR s12 l0 10) (((16 : Int32) * l1) + l2).toNatClampNeg))) + w13).toNatClampNeg) s12 _ h) t1 kl_12 (CW.of yv_X12_isA ml_X12_315) ⟨rfl, rfl, ⟨by decide, by decide⟩, by decide, by decide⟩ rfl hl.1 rfl (by decide) dX12_readClasses_363) hS (fun w20 s19 H locs h hW hS => ?_)
                    refine lv_if_ne hx hb dX12_readClasses_366 (tgt := 385) rfl (fun hc => ?_) (fun hc => ?_)
                    · replace h := h.2 hc
                      refine x_aload_n C hl dX12_readClasses_385 rfl ?_
                      refine x_get C hW (t := 12) (k := 14) t1 kl_12 (by decide) fl_X12_47 (v := rv b0 (mR s19 l0 14)) rfl dX12_readClasses_386 ?_
                      refine x_iload_n C hl dX12_readClasses_389 rfl ?_
                      refine x_iload C hl dX12_readClasses_390 rfl ?_
                      have t21 := h.1
                      replace h := h.2
                      have v22 := h.1
                      replace h := h.2
                      refine x_iast C hW hS t21 v22 dX12_readClasses_392 (fun H locs hW hS => ?_)
                      obtain ⟨s23, e_s23⟩ : ∃ z : Mem, z = (sI s19 (mR s19 l0 14) (((16 : Int32) * l1) + l2).toNatClampNeg w13) := ⟨_, rfl⟩
                      replace h := h s23 e_s23
                      replace hW : Wd G D tc b0 s23 H := by rw [e_s23]; exact hW
                      exact t_X12_readClasses_393 C hr hK191 hK204 hS hW (hl.keep [true, true, true, false, false, false] rfl) h
                    · replace h := h.1 hc
                      exact t_X12_readClasses_369 C hr hS hW (hl.keep [true, false, false, true, false, false] rfl) h
            · replace h := h.1 hc
              refine lv_goto hx hb dX12_readClasses_282 (tgt := 393) rfl ?_
              exact t_X12_readClasses_393 C hr hK191 hK204 hS hW (hl.keep [true, true, true, false, false, false] rfl) h
          · replace h := h.2 hc
            refine x_aload_n C hl dX12_readClasses_256 rfl ?_
            refine x_aload_n C hl dX12_readClasses_257 rfl ?_
            refine x_get C hW (t := 12) (k := 17) t1 kl_12 (by decide) fl_X12_56 (v := rv b0 (mR σ l0 17)) rfl dX12_readClasses_258 ?_
            refine x_iload_n C hl dX12_readClasses_261 rfl ?_
            have t24 := h.1
            replace h := h.2
            have v25 := h.1
            replace h := h.2
            refine x_iald C hW t24 v25 dX12_readClasses_262 ?_
            refine x_putI C hW hS (t := 12) (k := 49) t1 kl_12 (by decide) fl_X12_237 rfl rfl rfl rfl dX12_readClasses_263 (fun H locs hW hS => ?_)
            obtain ⟨s26, e_s26⟩ : ∃ z : Mem, z = (sI σ l0 49 (mI σ (mR σ l0 17) (((16 : Int32) * l1) + l2).toNatClampNeg)) := ⟨_, rfl⟩
            replace h := h s26 e_s26
            replace hW : Wd G D tc b0 s26 H := by rw [e_s26]; exact hW
            refine x_aload_n C hl dX12_readClasses_266 rfl ?_
            refine lv_iconst (v := (5 : Int32)) hx hb dX12_readClasses_267 (by decide) ?_
            refine y_i (x_run (As := [.int (5 : Int32)]) C hW hS (T_X12_fails l l0 (5 : Int32) s26 _ h) t1 kl_12 (CW.of yv_X12_fails ml_X12_261) ⟨rfl, rfl, ⟨by decide, by decide⟩, by decide, by decide⟩ rfl hl.1 rfl (by decide) dX12_readClasses_268) hS (fun w28 s27 H locs h hW hS => ?_)
            exact r_z C hr hW hS h.1 h.2 dX12_readClasses_271
        · replace h := h.2 hc
          refine lv_goto hx hb dX12_readClasses_244 (tgt := 393) rfl ?_
          exact t_X12_readClasses_393 C hr hK191 hK204 hS hW (hl.keep [true, true, true, false, false, false] rfl) h
set_option maxRecDepth 20000 in
set_option maxHeartbeats 4000000 in
theorem t_X12_readClasses_204 {p : Program} {l : Launch} {e : Env} {s : State} {m : MethodId} {args : Array Value} {below : List Frame} {meth : Method} {c : Code} {H : Heap} {locs : List Loc} {D : va_G} {tc : Nat → ClassId} {b0 : Nat} {ls : Array Slot} {G : Lay} {Qx : Int32 → Mem → Prop} {l0 : Nat} {l1 : Int32} {l2 : Int32}  {K191 : Int32 × Mem → Prop} {σ : Mem} (C : Cx p s m args meth c cX12_readClasses RX12 6 D tc b0) (hr : meth.sig.returnType = (some FieldType.boolean)) (hK191 : ∀ (x1 : Int32) (σ : Mem) (H : Heap) (locs : List Loc) (ls : Array Slot), va_S (AA b0) s.heap H locs → Wd G D tc b0 σ H → hL b0 ls 6 [some (.inr (.inr l0)), some (.inl x1), none, none, none, none] → K191 (x1, σ) → W p l e rm_X12_readClasses s m args below meth c H locs 0 0 (MQ below (va_Qi Qx (fun u t => Pw G D tc b0 u t) (AA b0)) args s 0 0 (AA b0)) (F0 m 191 ls [])) (hS : va_S (AA b0) s.heap H locs) (hW : Wd G D tc b0 σ H) (hl : hL b0 ls 6 [some (.inr (.inr l0)), some (.inl l1), some (.inl l2), none, none, none]) (h : X_X12_readClasses_204 G Qx K191 l0 l1 l2 σ) : W p l e rm_X12_readClasses s m args below meth c H locs 0 0 (MQ below (va_Qi Qx (fun u t => Pw G D tc b0 u t) (AA b0)) args s 0 0 (AA b0)) (F0 m 204 ls []) := by
  obtain ⟨n, h⟩ := h
  exact t_X12_readClasses_204_n C hr hK191 n l2 σ H locs ls hS hW hl h
set_option maxRecDepth 20000 in
set_option maxHeartbeats 4000000 in
theorem t_X12_readClasses_421_n {p : Program} {l : Launch} {e : Env} {s : State} {m : MethodId} {args : Array Value} {below : List Frame} {meth : Method} {c : Code} {D : va_G} {tc : Nat → ClassId} {b0 : Nat} {G : Lay} {Qx : Int32 → Mem → Prop} {l0 : Nat} {l1 : Int32} {K408 : Int32 × Mem → Prop} (C : Cx p s m args meth c cX12_readClasses RX12 6 D tc b0) (hr : meth.sig.returnType = (some FieldType.boolean)) (hK408 : ∀ (x1 : Int32) (σ : Mem) (H : Heap) (locs : List Loc) (ls : Array Slot), va_S (AA b0) s.heap H locs → Wd G D tc b0 σ H → hL b0 ls 6 [some (.inr (.inr l0)), some (.inl x1), none, none, none, none] → K408 (x1, σ) → W p l e rm_X12_readClasses s m args below meth c H locs 0 0 (MQ below (va_Qi Qx (fun u t => Pw G D tc b0 u t) (AA b0)) args s 0 0 (AA b0)) (F0 m 408 ls [])) (n : Nat) : ∀ (l2 : Int32) (σ : Mem) (H : Heap) (locs : List Loc) (ls : Array Slot), va_S (AA b0) s.heap H locs → Wd G D tc b0 σ H → hL b0 ls 6 [some (.inr (.inr l0)), some (.inl l1), some (.inl l2), none, none, none] → Lp (X_X12_readClasses_421_s G Qx K408 l0 l1) n (l2, σ) → W p l e rm_X12_readClasses s m args below meth c H locs 0 0 (MQ below (va_Qi Qx (fun u t => Pw G D tc b0 u t) (AA b0)) args s 0 0 (AA b0)) (F0 m 421 ls []) := by
  have hx := C.1
  have hb := C.2.1
  induction n with
  | zero => intro l2 σ H locs ls hS hW hl h; exact False.elim h
  | succ n hK421 =>
    intro l2 σ H locs ls hS hW hl h
    replace h : X_X12_readClasses_421_s G Qx K408 l0 l1 (Lp (X_X12_readClasses_421_s G Qx K408 l0 l1) n) (l2, σ) := h
    unfold X_X12_readClasses_421_s at h
    refine x_iload_n C hl dX12_readClasses_421 rfl ?_
    refine x_aload_n C hl dX12_readClasses_422 rfl ?_
    have t1 := h.1
    replace h := h.2
    refine x_get C hW (t := 12) (k := 6) t1 kl_12 (by decide) fl_X12_23 (v := rv b0 (mR σ l0 6)) rfl dX12_readClasses_423 ?_
    refine x_iload_n C hl dX12_readClasses_426 rfl ?_
    have t2 := h.1
    replace h := h.2
    have v3 := h.1
    replace h := h.2
    refine x_iald C hW t2 v3 dX12_readClasses_427 ?_
    refine lv_icmp_ge hx hb dX12_readClasses_428 (tgt := 443) rfl (fun hc => ?_) (fun hc => ?_)
    · replace h := h.1 hc
      refine x_iinc C hl dX12_readClasses_443 rfl (v := (1 : Int32)) (by decide) (by decide) rfl (fun ls hl => ?_)
      refine lv_goto hx hb dX12_readClasses_446 (tgt := 408) rfl ?_
      exact hK408 _ _ _ _ _ hS hW (hl.keep [true, true, false, false, false, false] rfl) h
    · replace h := h.2 hc
      refine x_aload_n C hl dX12_readClasses_431 rfl ?_
      refine x_iload_n C hl dX12_readClasses_432 rfl ?_
      refine x_iload_n C hl dX12_readClasses_433 rfl ?_
      refine y_v (x_run (As := [.int l1, .int l2]) C hW hS (T_X12_copyMeant l l0 l1 l2 σ _ h) t1 kl_12 (CW.of yv_X12_copyMeant ml_X12_307) ⟨rfl, rfl, ⟨by decide, by decide⟩, by decide, by decide⟩ rfl hl.1 rfl (by decide) dX12_readClasses_434) hS (fun s4 H locs h hW hS => ?_)
      refine x_iinc C hl dX12_readClasses_437 rfl (v := (1 : Int32)) (by decide) (by decide) rfl (fun ls hl => ?_)
      refine lv_goto hx hb dX12_readClasses_440 (tgt := 421) rfl ?_
      exact hK421 _ _ _ _ _ hS hW (hl.keep [true, true, true, false, false, false] rfl) h
set_option maxRecDepth 20000 in
set_option maxHeartbeats 4000000 in
theorem t_X12_readClasses_421 {p : Program} {l : Launch} {e : Env} {s : State} {m : MethodId} {args : Array Value} {below : List Frame} {meth : Method} {c : Code} {H : Heap} {locs : List Loc} {D : va_G} {tc : Nat → ClassId} {b0 : Nat} {ls : Array Slot} {G : Lay} {Qx : Int32 → Mem → Prop} {l0 : Nat} {l1 : Int32} {l2 : Int32}  {K408 : Int32 × Mem → Prop} {σ : Mem} (C : Cx p s m args meth c cX12_readClasses RX12 6 D tc b0) (hr : meth.sig.returnType = (some FieldType.boolean)) (hK408 : ∀ (x1 : Int32) (σ : Mem) (H : Heap) (locs : List Loc) (ls : Array Slot), va_S (AA b0) s.heap H locs → Wd G D tc b0 σ H → hL b0 ls 6 [some (.inr (.inr l0)), some (.inl x1), none, none, none, none] → K408 (x1, σ) → W p l e rm_X12_readClasses s m args below meth c H locs 0 0 (MQ below (va_Qi Qx (fun u t => Pw G D tc b0 u t) (AA b0)) args s 0 0 (AA b0)) (F0 m 408 ls [])) (hS : va_S (AA b0) s.heap H locs) (hW : Wd G D tc b0 σ H) (hl : hL b0 ls 6 [some (.inr (.inr l0)), some (.inl l1), some (.inl l2), none, none, none]) (h : X_X12_readClasses_421 G Qx K408 l0 l1 l2 σ) : W p l e rm_X12_readClasses s m args below meth c H locs 0 0 (MQ below (va_Qi Qx (fun u t => Pw G D tc b0 u t) (AA b0)) args s 0 0 (AA b0)) (F0 m 421 ls []) := by
  obtain ⟨n, h⟩ := h
  exact t_X12_readClasses_421_n C hr hK408 n l2 σ H locs ls hS hW hl h
set_option maxRecDepth 20000 in
set_option maxHeartbeats 4000000 in
theorem t_X12_readClasses_408_n {p : Program} {l : Launch} {e : Env} {s : State} {m : MethodId} {args : Array Value} {below : List Frame} {meth : Method} {c : Code} {D : va_G} {tc : Nat → ClassId} {b0 : Nat} {G : Lay} {Qx : Int32 → Mem → Prop} {l0 : Nat} (C : Cx p s m args meth c cX12_readClasses RX12 6 D tc b0) (hr : meth.sig.returnType = (some FieldType.boolean)) (n : Nat) : ∀ (l1 : Int32) (σ : Mem) (H : Heap) (locs : List Loc) (ls : Array Slot), va_S (AA b0) s.heap H locs → Wd G D tc b0 σ H → hL b0 ls 6 [some (.inr (.inr l0)), some (.inl l1), none, none, none, none] → Lp (X_X12_readClasses_408_s G Qx l0) n (l1, σ) → W p l e rm_X12_readClasses s m args below meth c H locs 0 0 (MQ below (va_Qi Qx (fun u t => Pw G D tc b0 u t) (AA b0)) args s 0 0 (AA b0)) (F0 m 408 ls []) := by
  have hx := C.1
  have hb := C.2.1
  induction n with
  | zero => intro l1 σ H locs ls hS hW hl h; exact False.elim h
  | succ n hK408 =>
    intro l1 σ H locs ls hS hW hl h
    replace h : X_X12_readClasses_408_s G Qx l0 (Lp (X_X12_readClasses_408_s G Qx l0) n) (l1, σ) := h
    unfold X_X12_readClasses_408_s at h
    refine x_iload_n C hl dX12_readClasses_408 rfl ?_
    refine lv_bipush (v := (13 : Int32)) hx hb dX12_readClasses_409 (by decide) ?_
    refine x_aload_n C hl dX12_readClasses_411 rfl ?_
    have t1 := h.1
    replace h := h.2
    refine x_get C hW (t := 12) (k := 56) t1 kl_12 (by decide) fl_X12_291 (v := .int (mI σ l0 56)) rfl dX12_readClasses_412 ?_
    refine lv_iadd hx hb dX12_readClasses_415 ?_
    refine lv_icmp_ge hx hb dX12_readClasses_416 (tgt := 449) rfl (fun hc => ?_) (fun hc => ?_)
    · replace h := h.1 hc
      refine lv_iconst (v := (1 : Int32)) hx hb dX12_readClasses_449 (by decide) ?_
      exact r_z C hr hW hS h.1 h.2 dX12_readClasses_450
    · replace h := h.2 hc
      refine lv_iconst (v := (0 : Int32)) hx hb dX12_readClasses_419 (by decide) ?_
      refine x_istore_n C hl dX12_readClasses_420 (by decide) rfl (fun ls hl => ?_)
      exact t_X12_readClasses_421 C hr hK408 hS hW (hl.keep [true, true, true, false, false, false] rfl) h
set_option maxRecDepth 20000 in
set_option maxHeartbeats 4000000 in
theorem t_X12_readClasses_408 {p : Program} {l : Launch} {e : Env} {s : State} {m : MethodId} {args : Array Value} {below : List Frame} {meth : Method} {c : Code} {H : Heap} {locs : List Loc} {D : va_G} {tc : Nat → ClassId} {b0 : Nat} {ls : Array Slot} {G : Lay} {Qx : Int32 → Mem → Prop} {l0 : Nat} {l1 : Int32}  {σ : Mem} (C : Cx p s m args meth c cX12_readClasses RX12 6 D tc b0) (hr : meth.sig.returnType = (some FieldType.boolean)) (hS : va_S (AA b0) s.heap H locs) (hW : Wd G D tc b0 σ H) (hl : hL b0 ls 6 [some (.inr (.inr l0)), some (.inl l1), none, none, none, none]) (h : X_X12_readClasses_408 G Qx l0 l1 σ) : W p l e rm_X12_readClasses s m args below meth c H locs 0 0 (MQ below (va_Qi Qx (fun u t => Pw G D tc b0 u t) (AA b0)) args s 0 0 (AA b0)) (F0 m 408 ls []) := by
  obtain ⟨n, h⟩ := h
  exact t_X12_readClasses_408_n C hr n l1 σ H locs ls hS hW hl h
set_option maxRecDepth 20000 in
set_option maxHeartbeats 4000000 in
theorem t_X12_readClasses_191_n {p : Program} {l : Launch} {e : Env} {s : State} {m : MethodId} {args : Array Value} {below : List Frame} {meth : Method} {c : Code} {D : va_G} {tc : Nat → ClassId} {b0 : Nat} {G : Lay} {Qx : Int32 → Mem → Prop} {l0 : Nat} (C : Cx p s m args meth c cX12_readClasses RX12 6 D tc b0) (hr : meth.sig.returnType = (some FieldType.boolean)) (n : Nat) : ∀ (l1 : Int32) (σ : Mem) (H : Heap) (locs : List Loc) (ls : Array Slot), va_S (AA b0) s.heap H locs → Wd G D tc b0 σ H → hL b0 ls 6 [some (.inr (.inr l0)), some (.inl l1), none, none, none, none] → Lp (X_X12_readClasses_191_s G Qx l0) n (l1, σ) → W p l e rm_X12_readClasses s m args below meth c H locs 0 0 (MQ below (va_Qi Qx (fun u t => Pw G D tc b0 u t) (AA b0)) args s 0 0 (AA b0)) (F0 m 191 ls []) := by
  have hx := C.1
  have hb := C.2.1
  induction n with
  | zero => intro l1 σ H locs ls hS hW hl h; exact False.elim h
  | succ n hK191 =>
    intro l1 σ H locs ls hS hW hl h
    replace h : X_X12_readClasses_191_s G Qx l0 (Lp (X_X12_readClasses_191_s G Qx l0) n) (l1, σ) := h
    unfold X_X12_readClasses_191_s at h
    refine x_iload_n C hl dX12_readClasses_191 rfl ?_
    refine lv_bipush (v := (13 : Int32)) hx hb dX12_readClasses_192 (by decide) ?_
    refine x_aload_n C hl dX12_readClasses_194 rfl ?_
    have t1 := h.1
    replace h := h.2
    refine x_get C hW (t := 12) (k := 56) t1 kl_12 (by decide) fl_X12_291 (v := .int (mI σ l0 56)) rfl dX12_readClasses_195 ?_
    refine lv_iadd hx hb dX12_readClasses_198 ?_
    refine lv_icmp_ge hx hb dX12_readClasses_199 (tgt := 405) rfl (fun hc => ?_) (fun hc => ?_)
    · replace h := h.1 hc
      refine lv_bipush (v := (13 : Int32)) hx hb dX12_readClasses_405 (by decide) ?_
      refine x_istore_n C hl dX12_readClasses_407 (by decide) rfl (fun ls hl => ?_)
      exact t_X12_readClasses_408 C hr hS hW (hl.keep [true, true, false, false, false, false] rfl) h
    · replace h := h.2 hc
      refine lv_iconst (v := (0 : Int32)) hx hb dX12_readClasses_202 (by decide) ?_
      refine x_istore_n C hl dX12_readClasses_203 (by decide) rfl (fun ls hl => ?_)
      exact t_X12_readClasses_204 C hr hK191 hS hW (hl.keep [true, true, true, false, false, false] rfl) h
set_option maxRecDepth 20000 in
set_option maxHeartbeats 4000000 in
theorem t_X12_readClasses_191 {p : Program} {l : Launch} {e : Env} {s : State} {m : MethodId} {args : Array Value} {below : List Frame} {meth : Method} {c : Code} {H : Heap} {locs : List Loc} {D : va_G} {tc : Nat → ClassId} {b0 : Nat} {ls : Array Slot} {G : Lay} {Qx : Int32 → Mem → Prop} {l0 : Nat} {l1 : Int32}  {σ : Mem} (C : Cx p s m args meth c cX12_readClasses RX12 6 D tc b0) (hr : meth.sig.returnType = (some FieldType.boolean)) (hS : va_S (AA b0) s.heap H locs) (hW : Wd G D tc b0 σ H) (hl : hL b0 ls 6 [some (.inr (.inr l0)), some (.inl l1), none, none, none, none]) (h : X_X12_readClasses_191 G Qx l0 l1 σ) : W p l e rm_X12_readClasses s m args below meth c H locs 0 0 (MQ below (va_Qi Qx (fun u t => Pw G D tc b0 u t) (AA b0)) args s 0 0 (AA b0)) (F0 m 191 ls []) := by
  obtain ⟨n, h⟩ := h
  exact t_X12_readClasses_191_n C hr n l1 σ H locs ls hS hW hl h
set_option maxRecDepth 20000 in
set_option maxHeartbeats 4000000 in
theorem t_X12_readClasses_147_n {p : Program} {l : Launch} {e : Env} {s : State} {m : MethodId} {args : Array Value} {below : List Frame} {meth : Method} {c : Code} {D : va_G} {tc : Nat → ClassId} {b0 : Nat} {G : Lay} {Qx : Int32 → Mem → Prop} {l0 : Nat} (C : Cx p s m args meth c cX12_readClasses RX12 6 D tc b0) (hr : meth.sig.returnType = (some FieldType.boolean)) (n : Nat) : ∀ (l1 : Int32) (σ : Mem) (H : Heap) (locs : List Loc) (ls : Array Slot), va_S (AA b0) s.heap H locs → Wd G D tc b0 σ H → hL b0 ls 6 [some (.inr (.inr l0)), some (.inl l1), none, none, none, none] → Lp (X_X12_readClasses_147_s G Qx l0) n (l1, σ) → W p l e rm_X12_readClasses s m args below meth c H locs 0 0 (MQ below (va_Qi Qx (fun u t => Pw G D tc b0 u t) (AA b0)) args s 0 0 (AA b0)) (F0 m 147 ls []) := by
  have hx := C.1
  have hb := C.2.1
  induction n with
  | zero => intro l1 σ H locs ls hS hW hl h; exact False.elim h
  | succ n hK147 =>
    intro l1 σ H locs ls hS hW hl h
    replace h : X_X12_readClasses_147_s G Qx l0 (Lp (X_X12_readClasses_147_s G Qx l0) n) (l1, σ) := h
    unfold X_X12_readClasses_147_s at h
    refine x_iload_n C hl dX12_readClasses_147 rfl ?_
    refine lv_bipush (v := (13 : Int32)) hx hb dX12_readClasses_148 (by decide) ?_
    refine x_aload_n C hl dX12_readClasses_150 rfl ?_
    have t1 := h.1
    replace h := h.2
    refine x_get C hW (t := 12) (k := 56) t1 kl_12 (by decide) fl_X12_291 (v := .int (mI σ l0 56)) rfl dX12_readClasses_151 ?_
    refine lv_iadd hx hb dX12_readClasses_154 ?_
    refine lv_icmp_ge hx hb dX12_readClasses_155 (tgt := 188) rfl (fun hc => ?_) (fun hc => ?_)
    · replace h := h.1 hc
      refine lv_bipush (v := (13 : Int32)) hx hb dX12_readClasses_188 (by decide) ?_
      refine x_istore_n C hl dX12_readClasses_190 (by decide) rfl (fun ls hl => ?_)
      exact t_X12_readClasses_191 C hr hS hW (hl.keep [true, true, false, false, false, false] rfl) h
    · replace h := h.2 hc
      refine lv_iconst (v := (0 : Int32)) hx hb dX12_readClasses_158 (by decide) ?_
      refine x_istore_n C hl dX12_readClasses_159 (by decide) rfl (fun ls hl => ?_)
      exact t_X12_readClasses_160 C hr hK147 hS hW (hl.keep [true, true, true, false, false, false] rfl) h
set_option maxRecDepth 20000 in
set_option maxHeartbeats 4000000 in
theorem t_X12_readClasses_147 {p : Program} {l : Launch} {e : Env} {s : State} {m : MethodId} {args : Array Value} {below : List Frame} {meth : Method} {c : Code} {H : Heap} {locs : List Loc} {D : va_G} {tc : Nat → ClassId} {b0 : Nat} {ls : Array Slot} {G : Lay} {Qx : Int32 → Mem → Prop} {l0 : Nat} {l1 : Int32}  {σ : Mem} (C : Cx p s m args meth c cX12_readClasses RX12 6 D tc b0) (hr : meth.sig.returnType = (some FieldType.boolean)) (hS : va_S (AA b0) s.heap H locs) (hW : Wd G D tc b0 σ H) (hl : hL b0 ls 6 [some (.inr (.inr l0)), some (.inl l1), none, none, none, none]) (h : X_X12_readClasses_147 G Qx l0 l1 σ) : W p l e rm_X12_readClasses s m args below meth c H locs 0 0 (MQ below (va_Qi Qx (fun u t => Pw G D tc b0 u t) (AA b0)) args s 0 0 (AA b0)) (F0 m 147 ls []) := by
  obtain ⟨n, h⟩ := h
  exact t_X12_readClasses_147_n C hr n l1 σ H locs ls hS hW hl h
set_option maxRecDepth 20000 in
set_option maxHeartbeats 4000000 in
theorem t_X12_readClasses_54_n {p : Program} {l : Launch} {e : Env} {s : State} {m : MethodId} {args : Array Value} {below : List Frame} {meth : Method} {c : Code} {D : va_G} {tc : Nat → ClassId} {b0 : Nat} {G : Lay} {Qx : Int32 → Mem → Prop} {l0 : Nat} (C : Cx p s m args meth c cX12_readClasses RX12 6 D tc b0) (hr : meth.sig.returnType = (some FieldType.boolean)) (n : Nat) : ∀ (l1 : Int32) (σ : Mem) (H : Heap) (locs : List Loc) (ls : Array Slot), va_S (AA b0) s.heap H locs → Wd G D tc b0 σ H → hL b0 ls 6 [some (.inr (.inr l0)), some (.inl l1), none, none, none, none] → Lp (X_X12_readClasses_54_s G Qx l0) n (l1, σ) → W p l e rm_X12_readClasses s m args below meth c H locs 0 0 (MQ below (va_Qi Qx (fun u t => Pw G D tc b0 u t) (AA b0)) args s 0 0 (AA b0)) (F0 m 54 ls []) := by
  have hx := C.1
  have hb := C.2.1
  induction n with
  | zero => intro l1 σ H locs ls hS hW hl h; exact False.elim h
  | succ n hK54 =>
    intro l1 σ H locs ls hS hW hl h
    replace h : X_X12_readClasses_54_s G Qx l0 (Lp (X_X12_readClasses_54_s G Qx l0) n) (l1, σ) := h
    unfold X_X12_readClasses_54_s at h
    refine x_iload_n C hl dX12_readClasses_54 rfl ?_
    refine lv_bipush (v := (13 : Int32)) hx hb dX12_readClasses_55 (by decide) ?_
    refine x_aload_n C hl dX12_readClasses_57 rfl ?_
    have t1 := h.1
    replace h := h.2
    refine x_get C hW (t := 12) (k := 56) t1 kl_12 (by decide) fl_X12_291 (v := .int (mI σ l0 56)) rfl dX12_readClasses_58 ?_
    refine lv_iadd hx hb dX12_readClasses_61 ?_
    refine lv_icmp_ge hx hb dX12_readClasses_62 (tgt := 144) rfl (fun hc => ?_) (fun hc => ?_)
    · replace h := h.1 hc
      refine lv_bipush (v := (13 : Int32)) hx hb dX12_readClasses_144 (by decide) ?_
      refine x_istore_n C hl dX12_readClasses_146 (by decide) rfl (fun ls hl => ?_)
      exact t_X12_readClasses_147 C hr hS hW (hl.keep [true, true, false, false, false, false] rfl) h
    · replace h := h.2 hc
      refine lv_iconst (v := (0 : Int32)) hx hb dX12_readClasses_65 (by decide) ?_
      refine x_istore_n C hl dX12_readClasses_66 (by decide) rfl (fun ls hl => ?_)
      exact t_X12_readClasses_67 C hr hK54 hS hW (hl.keep [true, true, true, false, false, false] rfl) h
set_option maxRecDepth 20000 in
set_option maxHeartbeats 4000000 in
theorem t_X12_readClasses_54 {p : Program} {l : Launch} {e : Env} {s : State} {m : MethodId} {args : Array Value} {below : List Frame} {meth : Method} {c : Code} {H : Heap} {locs : List Loc} {D : va_G} {tc : Nat → ClassId} {b0 : Nat} {ls : Array Slot} {G : Lay} {Qx : Int32 → Mem → Prop} {l0 : Nat} {l1 : Int32}  {σ : Mem} (C : Cx p s m args meth c cX12_readClasses RX12 6 D tc b0) (hr : meth.sig.returnType = (some FieldType.boolean)) (hS : va_S (AA b0) s.heap H locs) (hW : Wd G D tc b0 σ H) (hl : hL b0 ls 6 [some (.inr (.inr l0)), some (.inl l1), none, none, none, none]) (h : X_X12_readClasses_54 G Qx l0 l1 σ) : W p l e rm_X12_readClasses s m args below meth c H locs 0 0 (MQ below (va_Qi Qx (fun u t => Pw G D tc b0 u t) (AA b0)) args s 0 0 (AA b0)) (F0 m 54 ls []) := by
  obtain ⟨n, h⟩ := h
  exact t_X12_readClasses_54_n C hr n l1 σ H locs ls hS hW hl h
set_option maxRecDepth 20000 in
set_option maxHeartbeats 4000000 in
theorem t_X12_readClasses_27_n {p : Program} {l : Launch} {e : Env} {s : State} {m : MethodId} {args : Array Value} {below : List Frame} {meth : Method} {c : Code} {D : va_G} {tc : Nat → ClassId} {b0 : Nat} {G : Lay} {Qx : Int32 → Mem → Prop} {l0 : Nat} (C : Cx p s m args meth c cX12_readClasses RX12 6 D tc b0) (hr : meth.sig.returnType = (some FieldType.boolean)) (n : Nat) : ∀  (σ : Mem) (H : Heap) (locs : List Loc) (ls : Array Slot), va_S (AA b0) s.heap H locs → Wd G D tc b0 σ H → hL b0 ls 6 [some (.inr (.inr l0)), none, none, none, none, none] → Lp (X_X12_readClasses_27_s G Qx l0) n (σ) → W p l e rm_X12_readClasses s m args below meth c H locs 0 0 (MQ below (va_Qi Qx (fun u t => Pw G D tc b0 u t) (AA b0)) args s 0 0 (AA b0)) (F0 m 27 ls []) := by
  have hx := C.1
  have hb := C.2.1
  induction n with
  | zero => intro  σ H locs ls hS hW hl h; exact False.elim h
  | succ n hK27 =>
    intro  σ H locs ls hS hW hl h
    replace h : X_X12_readClasses_27_s G Qx l0 (Lp (X_X12_readClasses_27_s G Qx l0) n) (σ) := h
    unfold X_X12_readClasses_27_s at h
    refine x_aload_n C hl dX12_readClasses_27 rfl ?_
    have t1 := h.1
    replace h := h.2
    refine x_get C hW (t := 12) (k := 51) t1 kl_12 (by decide) fl_X12_243 (v := .int (mI σ l0 51)) rfl dX12_readClasses_28 ?_
    refine lv_if_eq hx hb dX12_readClasses_31 (tgt := 51) rfl (fun hc => ?_) (fun hc => ?_)
    · replace h := h.1 hc
      refine lv_bipush (v := (13 : Int32)) hx hb dX12_readClasses_51 (by decide) ?_
      refine x_istore_n C hl dX12_readClasses_53 (by decide) rfl (fun ls hl => ?_)
      exact t_X12_readClasses_54 C hr hS hW (hl.keep [true, true, false, false, false, false] rfl) h
    · replace h := h.2 hc
      refine x_aload_n C hl dX12_readClasses_34 rfl ?_
      refine lv_iconst (v := (0 : Int32)) hx hb dX12_readClasses_35 (by decide) ?_
      refine y_i (x_run (As := [.int (0 : Int32)]) C hW hS (T_X12_needsWord l l0 (0 : Int32) σ _ h) t1 kl_12 (CW.of yv_X12_needsWord ml_X12_297) ⟨rfl, rfl, ⟨by decide, by decide⟩, by decide, by decide⟩ rfl hl.1 rfl (by decide) dX12_readClasses_36) hS (fun w3 s2 H locs h hW hS => ?_)
      refine lv_if_eq hx hb dX12_readClasses_39 (tgt := 49) rfl (fun hc => ?_) (fun hc => ?_)
      · replace h := h.1 hc
        exact t_X12_readClasses_49 C hr hS hW (hl.keep [false, false, false, false, false, false] rfl) h
      · replace h := h.2 hc
        refine x_aload_n C hl dX12_readClasses_42 rfl ?_
        refine y_i (x_run (As := []) C hW hS (T_X12_readClass l l0 s2 _ h) t1 kl_12 (CW.of yv_X12_readClass ml_X12_300) ⟨rfl, rfl, ⟨by decide, by decide⟩, by decide, by decide⟩ rfl hl.1 rfl (by decide) dX12_readClasses_43) hS (fun w5 s4 H locs h hW hS => ?_)
        refine lv_if_ne hx hb dX12_readClasses_46 (tgt := 27) rfl (fun hc => ?_) (fun hc => ?_)
        · replace h := h.2 hc
          exact hK27 _ _ _ _ hS hW (hl.keep [true, false, false, false, false, false] rfl) h
        · replace h := h.1 hc
          exact t_X12_readClasses_49 C hr hS hW (hl.keep [false, false, false, false, false, false] rfl) h
set_option maxRecDepth 20000 in
set_option maxHeartbeats 4000000 in
theorem t_X12_readClasses_27 {p : Program} {l : Launch} {e : Env} {s : State} {m : MethodId} {args : Array Value} {below : List Frame} {meth : Method} {c : Code} {H : Heap} {locs : List Loc} {D : va_G} {tc : Nat → ClassId} {b0 : Nat} {ls : Array Slot} {G : Lay} {Qx : Int32 → Mem → Prop} {l0 : Nat}  {σ : Mem} (C : Cx p s m args meth c cX12_readClasses RX12 6 D tc b0) (hr : meth.sig.returnType = (some FieldType.boolean)) (hS : va_S (AA b0) s.heap H locs) (hW : Wd G D tc b0 σ H) (hl : hL b0 ls 6 [some (.inr (.inr l0)), none, none, none, none, none]) (h : X_X12_readClasses_27 G Qx l0 σ) : W p l e rm_X12_readClasses s m args below meth c H locs 0 0 (MQ below (va_Qi Qx (fun u t => Pw G D tc b0 u t) (AA b0)) args s 0 0 (AA b0)) (F0 m 27 ls []) := by
  obtain ⟨n, h⟩ := h
  exact t_X12_readClasses_27_n C hr n  σ H locs ls hS hW hl h
set_option maxRecDepth 20000 in
set_option maxHeartbeats 4000000 in
theorem t_X12_readClasses_0 {p : Program} {l : Launch} {e : Env} {s : State} {m : MethodId} {args : Array Value} {below : List Frame} {meth : Method} {c : Code} {H : Heap} {locs : List Loc} {D : va_G} {tc : Nat → ClassId} {b0 : Nat} {ls : Array Slot} {G : Lay} {Qx : Int32 → Mem → Prop} {l0 : Nat}  {σ : Mem} (C : Cx p s m args meth c cX12_readClasses RX12 6 D tc b0) (hr : meth.sig.returnType = (some FieldType.boolean)) (hS : va_S (AA b0) s.heap H locs) (hW : Wd G D tc b0 σ H) (hl : hL b0 ls 6 [some (.inr (.inr l0)), none, none, none, none, none]) (h : X_X12_readClasses_0 G Qx l0  σ) : W p l e rm_X12_readClasses s m args below meth c H locs 0 0 (MQ below (va_Qi Qx (fun u t => Pw G D tc b0 u t) (AA b0)) args s 0 0 (AA b0)) (F0 m 0 ls []) := by
  have hx := C.1
  have hb := C.2.1
  unfold X_X12_readClasses_0 at h
  refine x_aload_n C hl dX12_readClasses_0 rfl ?_
  refine lv_bipush (v := (13 : Int32)) hx hb dX12_readClasses_1 (by decide) ?_
  have t1 := h.1
  replace h := h.2
  refine x_putI C hW hS (t := 12) (k := 24) t1 kl_12 (by decide) fl_X12_288 rfl rfl rfl rfl dX12_readClasses_3 (fun H locs hW hS => ?_)
  obtain ⟨s2, e_s2⟩ : ∃ z : Mem, z = (sI σ l0 24 (13 : Int32)) := ⟨_, rfl⟩
  replace h := h s2 e_s2
  replace hW : Wd G D tc b0 s2 H := by rw [e_s2]; exact hW
  refine x_aload_n C hl dX12_readClasses_6 rfl ?_
  refine lv_iconst (v := (0 : Int32)) hx hb dX12_readClasses_7 (by decide) ?_
  refine x_putI C hW hS (t := 12) (k := 56) t1 kl_12 (by decide) fl_X12_291 rfl rfl rfl rfl dX12_readClasses_8 (fun H locs hW hS => ?_)
  obtain ⟨s3, e_s3⟩ : ∃ z : Mem, z = (sI s2 l0 56 (0 : Int32)) := ⟨_, rfl⟩
  replace h := h s3 e_s3
  replace hW : Wd G D tc b0 s3 H := by rw [e_s3]; exact hW
  refine x_aload_n C hl dX12_readClasses_11 rfl ?_
  refine lv_sipush (v := (1600 : Int32)) hx hb dX12_readClasses_12 (by decide) ?_
  refine x_putI C hW hS (t := 12) (k := 25) t1 kl_12 (by decide) fl_X12_294 rfl rfl rfl rfl dX12_readClasses_15 (fun H locs hW hS => ?_)
  obtain ⟨s4, e_s4⟩ : ∃ z : Mem, z = (sI s3 l0 25 (1600 : Int32)) := ⟨_, rfl⟩
  replace h := h s4 e_s4
  replace hW : Wd G D tc b0 s4 H := by rw [e_s4]; exact hW
  refine x_aload_n C hl dX12_readClasses_18 rfl ?_
  refine lv_iconst (v := (0 : Int32)) hx hb dX12_readClasses_19 (by decide) ?_
  refine x_putI C hW hS (t := 12) (k := 50) t1 kl_12 (by decide) fl_X12_226 rfl rfl rfl rfl dX12_readClasses_20 (fun H locs hW hS => ?_)
  obtain ⟨s5, e_s5⟩ : ∃ z : Mem, z = (sI s4 l0 50 (0 : Int32)) := ⟨_, rfl⟩
  replace h := h s5 e_s5
  replace hW : Wd G D tc b0 s5 H := by rw [e_s5]; exact hW
  refine x_aload_n C hl dX12_readClasses_23 rfl ?_
  refine y_v (x_run (As := []) C hW hS (T_X12_advance l l0 s5 _ h) t1 kl_12 (CW.of yv_X12_advance ml_X12_271) ⟨rfl, rfl, ⟨by decide, by decide⟩, by decide, by decide⟩ rfl hl.1 rfl (by decide) dX12_readClasses_24) hS (fun s6 H locs h hW hS => ?_)
  exact t_X12_readClasses_27 C hr hS hW (hl.keep [true, false, false, false, false, false] rfl) h
theorem T_X12_readClasses (l : Launch) {G : Lay} {D : va_G} {tc : Nat → ClassId} {b0 : Nat} (l0 : Nat) (σ : Mem) (Qx : Int32 → Mem → Prop) (h : X_X12_readClasses G Qx l0 σ) : MI l yX12_readClasses cX12_readClasses 6 ((some FieldType.boolean)) rm_X12_readClasses G D tc b0 [rv b0 l0] σ Qx :=
  x_entry (y := yX12_readClasses) [.inr (.inr l0)] 5 (by decide) (Nat.le_of_ble_eq_true rfl) (fun p e s m args below meth c ls C hr hW hl => t_X12_readClasses_0 C hr va_S.rf hW (hl.keep [true, false, false, false, false, false] rfl) h)
/-! X12_map -/
set_option maxRecDepth 20000 in
set_option maxHeartbeats 4000000 in
theorem t_X12_map_169 {p : Program} {l : Launch} {e : Env} {s : State} {m : MethodId} {args : Array Value} {below : List Frame} {meth : Method} {c : Code} {H : Heap} {locs : List Loc} {D : va_G} {tc : Nat → ClassId} {b0 : Nat} {ls : Array Slot} {G : Lay} {Qx : Int32 → Mem → Prop} {l0 : Nat} {l2 : Int32} {l3 : Int32}  {K36 : Int32 × Mem → Prop} {K121 : Int32 × Mem → Prop} {σ : Mem} (C : Cx p s m args meth c cX12_map RX12 4 D tc b0) (hr : meth.sig.returnType = (some FieldType.int)) (hK36 : ∀ (x2 : Int32) (σ : Mem) (H : Heap) (locs : List Loc) (ls : Array Slot), va_S (AA b0) s.heap H locs → Wd G D tc b0 σ H → hL b0 ls 4 [some (.inr (.inr l0)), none, some (.inl x2), none] → K36 (x2, σ) → W p l e rm_X12_map s m args below meth c H locs 0 0 (MQ below (va_Qi Qx (fun u t => Pw G D tc b0 u t) (AA b0)) args s 0 0 (AA b0)) (F0 m 36 ls [])) (hK121 : ∀ (x3 : Int32) (σ : Mem) (H : Heap) (locs : List Loc) (ls : Array Slot), va_S (AA b0) s.heap H locs → Wd G D tc b0 σ H → hL b0 ls 4 [some (.inr (.inr l0)), none, some (.inl l2), some (.inl x3)] → K121 (x3, σ) → W p l e rm_X12_map s m args below meth c H locs 0 0 (MQ below (va_Qi Qx (fun u t => Pw G D tc b0 u t) (AA b0)) args s 0 0 (AA b0)) (F0 m 121 ls [])) (hS : va_S (AA b0) s.heap H locs) (hW : Wd G D tc b0 σ H) (hl : hL b0 ls 4 [some (.inr (.inr l0)), none, some (.inl l2), some (.inl l3)]) (h : X_X12_map_169 G Qx K36 K121 l0 l2 l3  σ) : W p l e rm_X12_map s m args below meth c H locs 0 0 (MQ below (va_Qi Qx (fun u t => Pw G D tc b0 u t) (AA b0)) args s 0 0 (AA b0)) (F0 m 169 ls []) := by
  have hx := C.1
  have hb := C.2.1
  unfold X_X12_map_169 at h
  refine x_iinc C hl dX12_map_169 rfl (v := (1 : Int32)) (by decide) (by decide) rfl (fun ls hl => ?_)
  refine lv_goto hx hb dX12_map_172 (tgt := 121) rfl ?_
  exact hK121 _ _ _ _ _ hS hW (hl.keep [true, false, true, true] rfl) h
set_option maxRecDepth 20000 in
set_option maxHeartbeats 4000000 in
theorem t_X12_map_177_n {p : Program} {l : Launch} {e : Env} {s : State} {m : MethodId} {args : Array Value} {below : List Frame} {meth : Method} {c : Code} {D : va_G} {tc : Nat → ClassId} {b0 : Nat} {G : Lay} {Qx : Int32 → Mem → Prop} {l0 : Nat} {l2 : Int32} {K36 : Int32 × Mem → Prop} (C : Cx p s m args meth c cX12_map RX12 4 D tc b0) (hr : meth.sig.returnType = (some FieldType.int)) (hK36 : ∀ (x2 : Int32) (σ : Mem) (H : Heap) (locs : List Loc) (ls : Array Slot), va_S (AA b0) s.heap H locs → Wd G D tc b0 σ H → hL b0 ls 4 [some (.inr (.inr l0)), none, some (.inl x2), none] → K36 (x2, σ) → W p l e rm_X12_map s m args below meth c H locs 0 0 (MQ below (va_Qi Qx (fun u t => Pw G D tc b0 u t) (AA b0)) args s 0 0 (AA b0)) (F0 m 36 ls [])) (n : Nat) : ∀ (l3 : Int32) (σ : Mem) (H : Heap) (locs : List Loc) (ls : Array Slot), va_S (AA b0) s.heap H locs → Wd G D tc b0 σ H → hL b0 ls 4 [some (.inr (.inr l0)), none, some (.inl l2), some (.inl l3)] → Lp (X_X12_map_177_s G Qx K36 l0 l2) n (l3, σ) → W p l e rm_X12_map s m args below meth c H locs 0 0 (MQ below (va_Qi Qx (fun u t => Pw G D tc b0 u t) (AA b0)) args s 0 0 (AA b0)) (F0 m 177 ls []) := by
  have hx := C.1
  have hb := C.2.1
  induction n with
  | zero => intro l3 σ H locs ls hS hW hl h; exact False.elim h
  | succ n hK177 =>
    intro l3 σ H locs ls hS hW hl h
    replace h : X_X12_map_177_s G Qx K36 l0 l2 (Lp (X_X12_map_177_s G Qx K36 l0 l2) n) (l3, σ) := h
    unfold X_X12_map_177_s at h
    refine x_iload_n C hl dX12_map_177 rfl ?_
    refine lv_iconst (v := (4 : Int32)) hx hb dX12_map_178 (by decide) ?_
    refine lv_icmp_ge hx hb dX12_map_179 (tgt := 257) rfl (fun hc => ?_) (fun hc => ?_)
    · replace h := h.1 hc
      refine x_iinc C hl dX12_map_257 rfl (v := (1 : Int32)) (by decide) (by decide) rfl (fun ls hl => ?_)
      refine lv_goto hx hb dX12_map_260 (tgt := 36) rfl ?_
      exact hK36 _ _ _ _ _ hS hW (hl.keep [true, false, true, false] rfl) h
    · replace h := h.2 hc
      refine x_aload_n C hl dX12_map_182 rfl ?_
      have t1 := h.1
      replace h := h.2
      refine x_get C hW (t := 12) (k := 20) t1 kl_12 (by decide) fl_X12_65 (v := rv b0 (mR σ l0 20)) rfl dX12_map_183 ?_
      refine lv_iconst (v := (4 : Int32)) hx hb dX12_map_186 (by decide) ?_
      refine x_iload_n C hl dX12_map_187 rfl ?_
      refine lv_imul hx hb dX12_map_188 ?_
      refine x_iload_n C hl dX12_map_189 rfl ?_
      refine lv_iadd hx hb dX12_map_190 ?_
      refine x_aload_n C hl dX12_map_191 rfl ?_
      refine x_get C hW (t := 12) (k := 20) t1 kl_12 (by decide) fl_X12_65 (v := rv b0 (mR σ l0 20)) rfl dX12_map_192 ?_
      refine lv_bipush (v := (52 : Int32)) hx hb dX12_map_195 (by decide) ?_
      refine lv_iconst (v := (4 : Int32)) hx hb dX12_map_197 (by decide) ?_
      refine x_iload_n C hl dX12_map_198 rfl ?_
      refine lv_imul hx hb dX12_map_199 ?_
      refine lv_iadd hx hb dX12_map_200 ?_
      refine x_iload_n C hl dX12_map_201 rfl ?_
      refine lv_iadd hx hb dX12_map_202 ?_
      have t2 := h.1
      replace h := h.2
      have v3 := h.1
      replace h := h.2
      refine x_iald C hW t2 v3 dX12_map_203 ?_
      have v4 := h.1
      replace h := h.2
      refine x_iast C hW hS t2 v4 dX12_map_204 (fun H locs hW hS => ?_)
      obtain ⟨s5, e_s5⟩ : ∃ z : Mem, z = (sI σ (mR σ l0 20) (((4 : Int32) * l2) + l3).toNatClampNeg (mI σ (mR σ l0 20) (((52 : Int32) + ((4 : Int32) * l2)) + l3).toNatClampNeg)) := ⟨_, rfl⟩
      replace h := h s5 e_s5
      replace hW : Wd G D tc b0 s5 H := by rw [e_s5]; exact hW
      refine x_aload_n C hl dX12_map_205 rfl ?_
      refine x_get C hW (t := 12) (k := 21) t1 kl_12 (by decide) fl_X12_68 (v := rv b0 (mR s5 l0 21)) rfl dX12_map_206 ?_
      refine lv_iconst (v := (4 : Int32)) hx hb dX12_map_209 (by decide) ?_
      refine x_iload_n C hl dX12_map_210 rfl ?_
      refine lv_imul hx hb dX12_map_211 ?_
      refine x_iload_n C hl dX12_map_212 rfl ?_
      refine lv_iadd hx hb dX12_map_213 ?_
      refine x_aload_n C hl dX12_map_214 rfl ?_
      refine x_get C hW (t := 12) (k := 21) t1 kl_12 (by decide) fl_X12_68 (v := rv b0 (mR s5 l0 21)) rfl dX12_map_215 ?_
      refine lv_bipush (v := (52 : Int32)) hx hb dX12_map_218 (by decide) ?_
      refine lv_iconst (v := (4 : Int32)) hx hb dX12_map_220 (by decide) ?_
      refine x_iload_n C hl dX12_map_221 rfl ?_
      refine lv_imul hx hb dX12_map_222 ?_
      refine lv_iadd hx hb dX12_map_223 ?_
      refine x_iload_n C hl dX12_map_224 rfl ?_
      refine lv_iadd hx hb dX12_map_225 ?_
      have t6 := h.1
      replace h := h.2
      have v7 := h.1
      replace h := h.2
      refine x_iald C hW t6 v7 dX12_map_226 ?_
      have v8 := h.1
      replace h := h.2
      refine x_iast C hW hS t6 v8 dX12_map_227 (fun H locs hW hS => ?_)
      obtain ⟨s9, e_s9⟩ : ∃ z : Mem, z = (sI s5 (mR s5 l0 21) (((4 : Int32) * l2) + l3).toNatClampNeg (mI s5 (mR s5 l0 21) (((52 : Int32) + ((4 : Int32) * l2)) + l3).toNatClampNeg)) := ⟨_, rfl⟩
      replace h := h s9 e_s9
      replace hW : Wd G D tc b0 s9 H := by rw [e_s9]; exact hW
      refine x_aload_n C hl dX12_map_228 rfl ?_
      refine x_get C hW (t := 12) (k := 22) t1 kl_12 (by decide) fl_X12_71 (v := rv b0 (mR s9 l0 22)) rfl dX12_map_229 ?_
      refine lv_iconst (v := (4 : Int32)) hx hb dX12_map_232 (by decide) ?_
      refine x_iload_n C hl dX12_map_233 rfl ?_
      refine lv_imul hx hb dX12_map_234 ?_
      refine x_iload_n C hl dX12_map_235 rfl ?_
      refine lv_iadd hx hb dX12_map_236 ?_
      refine x_aload_n C hl dX12_map_237 rfl ?_
      refine x_get C hW (t := 12) (k := 22) t1 kl_12 (by decide) fl_X12_71 (v := rv b0 (mR s9 l0 22)) rfl dX12_map_238 ?_
      refine lv_bipush (v := (52 : Int32)) hx hb dX12_map_241 (by decide) ?_
      refine lv_iconst (v := (4 : Int32)) hx hb dX12_map_243 (by decide) ?_
      refine x_iload_n C hl dX12_map_244 rfl ?_
      refine lv_imul hx hb dX12_map_245 ?_
      refine lv_iadd hx hb dX12_map_246 ?_
      refine x_iload_n C hl dX12_map_247 rfl ?_
      refine lv_iadd hx hb dX12_map_248 ?_
      have t10 := h.1
      replace h := h.2
      have v11 := h.1
      replace h := h.2
      refine x_iald C hW t10 v11 dX12_map_249 ?_
      have v12 := h.1
      replace h := h.2
      refine x_iast C hW hS t10 v12 dX12_map_250 (fun H locs hW hS => ?_)
      obtain ⟨s13, e_s13⟩ : ∃ z : Mem, z = (sI s9 (mR s9 l0 22) (((4 : Int32) * l2) + l3).toNatClampNeg (mI s9 (mR s9 l0 22) (((52 : Int32) + ((4 : Int32) * l2)) + l3).toNatClampNeg)) := ⟨_, rfl⟩
      replace h := h s13 e_s13
      replace hW : Wd G D tc b0 s13 H := by rw [e_s13]; exact hW
      refine x_iinc C hl dX12_map_251 rfl (v := (1 : Int32)) (by decide) (by decide) rfl (fun ls hl => ?_)
      refine lv_goto hx hb dX12_map_254 (tgt := 177) rfl ?_
      exact hK177 _ _ _ _ _ hS hW (hl.keep [true, false, true, true] rfl) h
set_option maxRecDepth 20000 in
set_option maxHeartbeats 4000000 in
theorem t_X12_map_177 {p : Program} {l : Launch} {e : Env} {s : State} {m : MethodId} {args : Array Value} {below : List Frame} {meth : Method} {c : Code} {H : Heap} {locs : List Loc} {D : va_G} {tc : Nat → ClassId} {b0 : Nat} {ls : Array Slot} {G : Lay} {Qx : Int32 → Mem → Prop} {l0 : Nat} {l2 : Int32} {l3 : Int32}  {K36 : Int32 × Mem → Prop} {σ : Mem} (C : Cx p s m args meth c cX12_map RX12 4 D tc b0) (hr : meth.sig.returnType = (some FieldType.int)) (hK36 : ∀ (x2 : Int32) (σ : Mem) (H : Heap) (locs : List Loc) (ls : Array Slot), va_S (AA b0) s.heap H locs → Wd G D tc b0 σ H → hL b0 ls 4 [some (.inr (.inr l0)), none, some (.inl x2), none] → K36 (x2, σ) → W p l e rm_X12_map s m args below meth c H locs 0 0 (MQ below (va_Qi Qx (fun u t => Pw G D tc b0 u t) (AA b0)) args s 0 0 (AA b0)) (F0 m 36 ls [])) (hS : va_S (AA b0) s.heap H locs) (hW : Wd G D tc b0 σ H) (hl : hL b0 ls 4 [some (.inr (.inr l0)), none, some (.inl l2), some (.inl l3)]) (h : X_X12_map_177 G Qx K36 l0 l2 l3 σ) : W p l e rm_X12_map s m args below meth c H locs 0 0 (MQ below (va_Qi Qx (fun u t => Pw G D tc b0 u t) (AA b0)) args s 0 0 (AA b0)) (F0 m 177 ls []) := by
  obtain ⟨n, h⟩ := h
  exact t_X12_map_177_n C hr hK36 n l3 σ H locs ls hS hW hl h
set_option maxRecDepth 20000 in
set_option maxHeartbeats 4000000 in
theorem t_X12_map_121_n {p : Program} {l : Launch} {e : Env} {s : State} {m : MethodId} {args : Array Value} {below : List Frame} {meth : Method} {c : Code} {D : va_G} {tc : Nat → ClassId} {b0 : Nat} {G : Lay} {Qx : Int32 → Mem → Prop} {l0 : Nat} {l2 : Int32} {K36 : Int32 × Mem → Prop} (C : Cx p s m args meth c cX12_map RX12 4 D tc b0) (hr : meth.sig.returnType = (some FieldType.int)) (hK36 : ∀ (x2 : Int32) (σ : Mem) (H : Heap) (locs : List Loc) (ls : Array Slot), va_S (AA b0) s.heap H locs → Wd G D tc b0 σ H → hL b0 ls 4 [some (.inr (.inr l0)), none, some (.inl x2), none] → K36 (x2, σ) → W p l e rm_X12_map s m args below meth c H locs 0 0 (MQ below (va_Qi Qx (fun u t => Pw G D tc b0 u t) (AA b0)) args s 0 0 (AA b0)) (F0 m 36 ls [])) (n : Nat) : ∀ (l3 : Int32) (σ : Mem) (H : Heap) (locs : List Loc) (ls : Array Slot), va_S (AA b0) s.heap H locs → Wd G D tc b0 σ H → hL b0 ls 4 [some (.inr (.inr l0)), none, some (.inl l2), some (.inl l3)] → Lp (X_X12_map_121_s G Qx K36 l0 l2) n (l3, σ) → W p l e rm_X12_map s m args below meth c H locs 0 0 (MQ below (va_Qi Qx (fun u t => Pw G D tc b0 u t) (AA b0)) args s 0 0 (AA b0)) (F0 m 121 ls []) := by
  have hx := C.1
  have hb := C.2.1
  induction n with
  | zero => intro l3 σ H locs ls hS hW hl h; exact False.elim h
  | succ n hK121 =>
    intro l3 σ H locs ls hS hW hl h
    replace h : X_X12_map_121_s G Qx K36 l0 l2 (Lp (X_X12_map_121_s G Qx K36 l0 l2) n) (l3, σ) := h
    unfold X_X12_map_121_s at h
    refine x_iload_n C hl dX12_map_121 rfl ?_
    refine lv_bipush (v := (16 : Int32)) hx hb dX12_map_122 (by decide) ?_
    refine lv_icmp_ge hx hb dX12_map_124 (tgt := 175) rfl (fun hc => ?_) (fun hc => ?_)
    · replace h := h.1 hc
      refine lv_iconst (v := (0 : Int32)) hx hb dX12_map_175 (by decide) ?_
      refine x_istore_n C hl dX12_map_176 (by decide) rfl (fun ls hl => ?_)
      exact t_X12_map_177 C hr hK36 hS hW (hl.keep [true, false, true, true] rfl) h
    · replace h := h.2 hc
      refine x_aload_n C hl dX12_map_127 rfl ?_
      refine lv_bipush (v := (13 : Int32)) hx hb dX12_map_128 (by decide) ?_
      refine x_iload_n C hl dX12_map_130 rfl ?_
      refine lv_iadd hx hb dX12_map_131 ?_
      refine x_iload_n C hl dX12_map_132 rfl ?_
      refine x_iload_n C hl dX12_map_133 rfl ?_
      have t1 := h.1
      replace h := h.2
      refine y_v (x_run (As := [.int ((13 : Int32) + l2), .int l2, .int l3]) C hW hS (T_X12_copyMember l l0 ((13 : Int32) + l2) l2 l3 σ _ h) t1 kl_12 (CW.of yv_X12_copyMember ml_X12_322) ⟨rfl, rfl, ⟨by decide, by decide⟩, by decide, by decide⟩ rfl hl.1 rfl (by decide) dX12_map_134) hS (fun s2 H locs h hW hS => ?_)
      refine x_aload_n C hl dX12_map_137 rfl ?_
      refine x_get C hW (t := 12) (k := 9) t1 kl_12 (by decide) fl_X12_32 (v := rv b0 (mR s2 l0 9)) rfl dX12_map_138 ?_
      refine lv_bipush (v := (16 : Int32)) hx hb dX12_map_141 (by decide) ?_
      refine x_iload_n C hl dX12_map_143 rfl ?_
      refine lv_imul hx hb dX12_map_144 ?_
      refine x_iload_n C hl dX12_map_145 rfl ?_
      refine lv_iadd hx hb dX12_map_146 ?_
      have t3 := h.1
      replace h := h.2
      have v4 := h.1
      replace h := h.2
      refine x_iald C hW t3 v4 dX12_map_147 ?_
      refine lv_iconst (v := (3 : Int32)) hx hb dX12_map_148 (by decide) ?_
      refine lv_icmp_ne hx hb dX12_map_149 (tgt := 169) rfl (fun hc => ?_) (fun hc => ?_)
      · replace h := h.2 hc
        exact t_X12_map_169 C hr hK36 hK121 hS hW (hl.keep [true, false, true, true] rfl) h
      · replace h := h.1 hc
        refine x_aload_n C hl dX12_map_152 rfl ?_
        refine x_get C hW (t := 12) (k := 11) t1 kl_12 (by decide) fl_X12_38 (v := rv b0 (mR s2 l0 11)) rfl dX12_map_153 ?_
        refine lv_bipush (v := (16 : Int32)) hx hb dX12_map_156 (by decide) ?_
        refine x_iload_n C hl dX12_map_158 rfl ?_
        refine lv_imul hx hb dX12_map_159 ?_
        refine x_iload_n C hl dX12_map_160 rfl ?_
        refine lv_iadd hx hb dX12_map_161 ?_
        refine lv_dup2_11 hx hb dX12_map_162 rfl (rv_cat _ _) ?_
        have t5 := h.1
        replace h := h.2
        have v6 := h.1
        replace h := h.2
        refine x_iald C hW t5 v6 dX12_map_163 ?_
        refine lv_sipush (v := (1600 : Int32)) hx hb dX12_map_164 (by decide) ?_
        refine lv_isub hx hb dX12_map_167 ?_
        refine x_iast C hW hS t5 v6 dX12_map_168 (fun H locs hW hS => ?_)
        obtain ⟨s7, e_s7⟩ : ∃ z : Mem, z = (sI s2 (mR s2 l0 11) (((16 : Int32) * l2) + l3).toNatClampNeg ((mI s2 (mR s2 l0 11) (((16 : Int32) * l2) + l3).toNatClampNeg) - (1600 : Int32))) := ⟨_, rfl⟩
        replace h := h s7 e_s7
        replace hW : Wd G D tc b0 s7 H := by rw [e_s7]; exact hW
        exact t_X12_map_169 C hr hK36 hK121 hS hW (hl.keep [true, false, true, true] rfl) h
set_option maxRecDepth 20000 in
set_option maxHeartbeats 4000000 in
theorem t_X12_map_121 {p : Program} {l : Launch} {e : Env} {s : State} {m : MethodId} {args : Array Value} {below : List Frame} {meth : Method} {c : Code} {H : Heap} {locs : List Loc} {D : va_G} {tc : Nat → ClassId} {b0 : Nat} {ls : Array Slot} {G : Lay} {Qx : Int32 → Mem → Prop} {l0 : Nat} {l2 : Int32} {l3 : Int32}  {K36 : Int32 × Mem → Prop} {σ : Mem} (C : Cx p s m args meth c cX12_map RX12 4 D tc b0) (hr : meth.sig.returnType = (some FieldType.int)) (hK36 : ∀ (x2 : Int32) (σ : Mem) (H : Heap) (locs : List Loc) (ls : Array Slot), va_S (AA b0) s.heap H locs → Wd G D tc b0 σ H → hL b0 ls 4 [some (.inr (.inr l0)), none, some (.inl x2), none] → K36 (x2, σ) → W p l e rm_X12_map s m args below meth c H locs 0 0 (MQ below (va_Qi Qx (fun u t => Pw G D tc b0 u t) (AA b0)) args s 0 0 (AA b0)) (F0 m 36 ls [])) (hS : va_S (AA b0) s.heap H locs) (hW : Wd G D tc b0 σ H) (hl : hL b0 ls 4 [some (.inr (.inr l0)), none, some (.inl l2), some (.inl l3)]) (h : X_X12_map_121 G Qx K36 l0 l2 l3 σ) : W p l e rm_X12_map s m args below meth c H locs 0 0 (MQ below (va_Qi Qx (fun u t => Pw G D tc b0 u t) (AA b0)) args s 0 0 (AA b0)) (F0 m 121 ls []) := by
  obtain ⟨n, h⟩ := h
  exact t_X12_map_121_n C hr hK36 n l3 σ H locs ls hS hW hl h
set_option maxRecDepth 20000 in
set_option maxHeartbeats 4000000 in
theorem t_X12_map_325_n {p : Program} {l : Launch} {e : Env} {s : State} {m : MethodId} {args : Array Value} {below : List Frame} {meth : Method} {c : Code} {D : va_G} {tc : Nat → ClassId} {b0 : Nat} {G : Lay} {Qx : Int32 → Mem → Prop} {l0 : Nat} (C : Cx p s m args meth c cX12_map RX12 4 D tc b0) (hr : meth.sig.returnType = (some FieldType.int)) (n : Nat) : ∀ (l2 : Int32) (σ : Mem) (H : Heap) (locs : List Loc) (ls : Array Slot), va_S (AA b0) s.heap H locs → Wd G D tc b0 σ H → hL b0 ls 4 [some (.inr (.inr l0)), none, some (.inl l2), none] → Lp (X_X12_map_325_s G Qx l0) n (l2, σ) → W p l e rm_X12_map s m args below meth c H locs 0 0 (MQ below (va_Qi Qx (fun u t => Pw G D tc b0 u t) (AA b0)) args s 0 0 (AA b0)) (F0 m 325 ls []) := by
  have hx := C.1
  have hb := C.2.1
  induction n with
  | zero => intro l2 σ H locs ls hS hW hl h; exact False.elim h
  | succ n hK325 =>
    intro l2 σ H locs ls hS hW hl h
    replace h : X_X12_map_325_s G Qx l0 (Lp (X_X12_map_325_s G Qx l0) n) (l2, σ) := h
    unfold X_X12_map_325_s at h
    refine x_iload_n C hl dX12_map_325 rfl ?_
    refine lv_iconst (v := (4 : Int32)) hx hb dX12_map_326 (by decide) ?_
    refine lv_icmp_ge hx hb dX12_map_327 (tgt := 350) rfl (fun hc => ?_) (fun hc => ?_)
    · replace h := h.1 hc
      refine x_aload_n C hl dX12_map_350 rfl ?_
      refine lv_iconst (v := (0 : Int32)) hx hb dX12_map_351 (by decide) ?_
      have t1 := h.1
      replace h := h.2
      refine x_putI C hW hS (t := 12) (k := 90) t1 kl_12 (by decide) fl_X12_347 rfl rfl rfl rfl dX12_map_352 (fun H locs hW hS => ?_)
      obtain ⟨s2, e_s2⟩ : ∃ z : Mem, z = (sI σ l0 90 (0 : Int32)) := ⟨_, rfl⟩
      replace h := h s2 e_s2
      replace hW : Wd G D tc b0 s2 H := by rw [e_s2]; exact hW
      refine x_aload_n C hl dX12_map_355 rfl ?_
      refine x_get C hW (t := 12) (k := 2) t1 kl_12 (by decide) fl_X12_341 (v := .int (mI s2 l0 2)) rfl dX12_map_356 ?_
      exact r_i C hr hW hS h dX12_map_359
    · replace h := h.2 hc
      refine x_aload_n C hl dX12_map_330 rfl ?_
      have t3 := h.1
      replace h := h.2
      refine x_get C hW (t := 12) (k := 39) t3 kl_12 (by decide) fl_X12_110 (v := rv b0 (mR σ l0 39)) rfl dX12_map_331 ?_
      refine x_iload_n C hl dX12_map_334 rfl ?_
      refine lv_iconst (v := (0 : Int32)) hx hb dX12_map_335 (by decide) ?_
      have t4 := h.1
      replace h := h.2
      have v5 := h.1
      replace h := h.2
      refine x_zast C hW hS t4 v5 dX12_map_336 (fun H locs hW hS => ?_)
      obtain ⟨s6, e_s6⟩ : ∃ z : Mem, z = (sI σ (mR σ l0 39) l2.toNatClampNeg (vp_nar .boolean (0 : Int32))) := ⟨_, rfl⟩
      replace h := h s6 e_s6
      replace hW : Wd G D tc b0 s6 H := by rw [e_s6]; exact hW
      refine x_aload_n C hl dX12_map_337 rfl ?_
      refine x_get C hW (t := 12) (k := 40) t3 kl_12 (by decide) fl_X12_114 (v := rv b0 (mR s6 l0 40)) rfl dX12_map_338 ?_
      refine x_iload_n C hl dX12_map_341 rfl ?_
      refine lv_iconst (v := (0 : Int32)) hx hb dX12_map_342 (by decide) ?_
      have t7 := h.1
      replace h := h.2
      have v8 := h.1
      replace h := h.2
      refine x_iast C hW hS t7 v8 dX12_map_343 (fun H locs hW hS => ?_)
      obtain ⟨s9, e_s9⟩ : ∃ z : Mem, z = (sI s6 (mR s6 l0 40) l2.toNatClampNeg (0 : Int32)) := ⟨_, rfl⟩
      replace h := h s9 e_s9
      replace hW : Wd G D tc b0 s9 H := by rw [e_s9]; exact hW
      refine x_iinc C hl dX12_map_344 rfl (v := (1 : Int32)) (by decide) (by decide) rfl (fun ls hl => ?_)
      refine lv_goto hx hb dX12_map_347 (tgt := 325) rfl ?_
      exact hK325 _ _ _ _ _ hS hW (hl.keep [true, false, true, false] rfl) h
set_option maxRecDepth 20000 in
set_option maxHeartbeats 4000000 in
theorem t_X12_map_325 {p : Program} {l : Launch} {e : Env} {s : State} {m : MethodId} {args : Array Value} {below : List Frame} {meth : Method} {c : Code} {H : Heap} {locs : List Loc} {D : va_G} {tc : Nat → ClassId} {b0 : Nat} {ls : Array Slot} {G : Lay} {Qx : Int32 → Mem → Prop} {l0 : Nat} {l2 : Int32}  {σ : Mem} (C : Cx p s m args meth c cX12_map RX12 4 D tc b0) (hr : meth.sig.returnType = (some FieldType.int)) (hS : va_S (AA b0) s.heap H locs) (hW : Wd G D tc b0 σ H) (hl : hL b0 ls 4 [some (.inr (.inr l0)), none, some (.inl l2), none]) (h : X_X12_map_325 G Qx l0 l2 σ) : W p l e rm_X12_map s m args below meth c H locs 0 0 (MQ below (va_Qi Qx (fun u t => Pw G D tc b0 u t) (AA b0)) args s 0 0 (AA b0)) (F0 m 325 ls []) := by
  obtain ⟨n, h⟩ := h
  exact t_X12_map_325_n C hr n l2 σ H locs ls hS hW hl h
set_option maxRecDepth 20000 in
set_option maxHeartbeats 4000000 in
theorem t_X12_map_304_n {p : Program} {l : Launch} {e : Env} {s : State} {m : MethodId} {args : Array Value} {below : List Frame} {meth : Method} {c : Code} {D : va_G} {tc : Nat → ClassId} {b0 : Nat} {G : Lay} {Qx : Int32 → Mem → Prop} {l0 : Nat} (C : Cx p s m args meth c cX12_map RX12 4 D tc b0) (hr : meth.sig.returnType = (some FieldType.int)) (n : Nat) : ∀ (l2 : Int32) (σ : Mem) (H : Heap) (locs : List Loc) (ls : Array Slot), va_S (AA b0) s.heap H locs → Wd G D tc b0 σ H → hL b0 ls 4 [some (.inr (.inr l0)), none, some (.inl l2), none] → Lp (X_X12_map_304_s G Qx l0) n (l2, σ) → W p l e rm_X12_map s m args below meth c H locs 0 0 (MQ below (va_Qi Qx (fun u t => Pw G D tc b0 u t) (AA b0)) args s 0 0 (AA b0)) (F0 m 304 ls []) := by
  have hx := C.1
  have hb := C.2.1
  induction n with
  | zero => intro l2 σ H locs ls hS hW hl h; exact False.elim h
  | succ n hK304 =>
    intro l2 σ H locs ls hS hW hl h
    replace h : X_X12_map_304_s G Qx l0 (Lp (X_X12_map_304_s G Qx l0) n) (l2, σ) := h
    unfold X_X12_map_304_s at h
    refine x_iload_n C hl dX12_map_304 rfl ?_
    refine lv_bipush (v := (12 : Int32)) hx hb dX12_map_305 (by decide) ?_
    refine lv_icmp_ge hx hb dX12_map_307 (tgt := 323) rfl (fun hc => ?_) (fun hc => ?_)
    · replace h := h.1 hc
      refine lv_iconst (v := (0 : Int32)) hx hb dX12_map_323 (by decide) ?_
      refine x_istore_n C hl dX12_map_324 (by decide) rfl (fun ls hl => ?_)
      exact t_X12_map_325 C hr hS hW (hl.keep [true, false, true, false] rfl) h
    · replace h := h.2 hc
      refine x_aload_n C hl dX12_map_310 rfl ?_
      have t1 := h.1
      replace h := h.2
      refine x_get C hW (t := 12) (k := 32) t1 kl_12 (by decide) fl_X12_92 (v := rv b0 (mR σ l0 32)) rfl dX12_map_311 ?_
      refine x_iload_n C hl dX12_map_314 rfl ?_
      refine lv_iconst (v := (0 : Int32)) hx hb dX12_map_315 (by decide) ?_
      have t2 := h.1
      replace h := h.2
      have v3 := h.1
      replace h := h.2
      refine x_iast C hW hS t2 v3 dX12_map_316 (fun H locs hW hS => ?_)
      obtain ⟨s4, e_s4⟩ : ∃ z : Mem, z = (sI σ (mR σ l0 32) l2.toNatClampNeg (0 : Int32)) := ⟨_, rfl⟩
      replace h := h s4 e_s4
      replace hW : Wd G D tc b0 s4 H := by rw [e_s4]; exact hW
      refine x_iinc C hl dX12_map_317 rfl (v := (1 : Int32)) (by decide) (by decide) rfl (fun ls hl => ?_)
      refine lv_goto hx hb dX12_map_320 (tgt := 304) rfl ?_
      exact hK304 _ _ _ _ _ hS hW (hl.keep [true, false, true, false] rfl) h
set_option maxRecDepth 20000 in
set_option maxHeartbeats 4000000 in
theorem t_X12_map_304 {p : Program} {l : Launch} {e : Env} {s : State} {m : MethodId} {args : Array Value} {below : List Frame} {meth : Method} {c : Code} {H : Heap} {locs : List Loc} {D : va_G} {tc : Nat → ClassId} {b0 : Nat} {ls : Array Slot} {G : Lay} {Qx : Int32 → Mem → Prop} {l0 : Nat} {l2 : Int32}  {σ : Mem} (C : Cx p s m args meth c cX12_map RX12 4 D tc b0) (hr : meth.sig.returnType = (some FieldType.int)) (hS : va_S (AA b0) s.heap H locs) (hW : Wd G D tc b0 σ H) (hl : hL b0 ls 4 [some (.inr (.inr l0)), none, some (.inl l2), none]) (h : X_X12_map_304 G Qx l0 l2 σ) : W p l e rm_X12_map s m args below meth c H locs 0 0 (MQ below (va_Qi Qx (fun u t => Pw G D tc b0 u t) (AA b0)) args s 0 0 (AA b0)) (F0 m 304 ls []) := by
  obtain ⟨n, h⟩ := h
  exact t_X12_map_304_n C hr n l2 σ H locs ls hS hW hl h
set_option maxRecDepth 20000 in
set_option maxHeartbeats 4000000 in
theorem t_X12_map_267_n {p : Program} {l : Launch} {e : Env} {s : State} {m : MethodId} {args : Array Value} {below : List Frame} {meth : Method} {c : Code} {D : va_G} {tc : Nat → ClassId} {b0 : Nat} {G : Lay} {Qx : Int32 → Mem → Prop} {l0 : Nat} (C : Cx p s m args meth c cX12_map RX12 4 D tc b0) (hr : meth.sig.returnType = (some FieldType.int)) (n : Nat) : ∀ (l2 : Int32) (σ : Mem) (H : Heap) (locs : List Loc) (ls : Array Slot), va_S (AA b0) s.heap H locs → Wd G D tc b0 σ H → hL b0 ls 4 [some (.inr (.inr l0)), none, some (.inl l2), none] → Lp (X_X12_map_267_s G Qx l0) n (l2, σ) → W p l e rm_X12_map s m args below meth c H locs 0 0 (MQ below (va_Qi Qx (fun u t => Pw G D tc b0 u t) (AA b0)) args s 0 0 (AA b0)) (F0 m 267 ls []) := by
  have hx := C.1
  have hb := C.2.1
  induction n with
  | zero => intro l2 σ H locs ls hS hW hl h; exact False.elim h
  | succ n hK267 =>
    intro l2 σ H locs ls hS hW hl h
    replace h : X_X12_map_267_s G Qx l0 (Lp (X_X12_map_267_s G Qx l0) n) (l2, σ) := h
    unfold X_X12_map_267_s at h
    refine x_iload_n C hl dX12_map_267 rfl ?_
    refine x_aload_n C hl dX12_map_268 rfl ?_
    have t1 := h.1
    replace h := h.2
    refine x_get C hW (t := 12) (k := 25) t1 kl_12 (by decide) fl_X12_294 (v := .int (mI σ l0 25)) rfl dX12_map_269 ?_
    refine lv_icmp_ge hx hb dX12_map_272 (tgt := 297) rfl (fun hc => ?_) (fun hc => ?_)
    · replace h := h.1 hc
      refine x_aload_n C hl dX12_map_297 rfl ?_
      refine lv_iconst (v := (0 : Int32)) hx hb dX12_map_298 (by decide) ?_
      refine x_putI C hW hS (t := 12) (k := 26) t1 kl_12 (by decide) fl_X12_344 rfl rfl rfl rfl dX12_map_299 (fun H locs hW hS => ?_)
      obtain ⟨s2, e_s2⟩ : ∃ z : Mem, z = (sI σ l0 26 (0 : Int32)) := ⟨_, rfl⟩
      replace h := h s2 e_s2
      replace hW : Wd G D tc b0 s2 H := by rw [e_s2]; exact hW
      refine lv_iconst (v := (0 : Int32)) hx hb dX12_map_302 (by decide) ?_
      refine x_istore_n C hl dX12_map_303 (by decide) rfl (fun ls hl => ?_)
      exact t_X12_map_304 C hr hS hW (hl.keep [true, false, true, false] rfl) h
    · replace h := h.2 hc
      refine x_aload_n C hl dX12_map_275 rfl ?_
      refine x_get C hW (t := 12) (k := 23) t1 kl_12 (by decide) fl_X12_74 (v := rv b0 (mR σ l0 23)) rfl dX12_map_276 ?_
      refine x_iload_n C hl dX12_map_279 rfl ?_
      refine lv_sipush (v := (1600 : Int32)) hx hb dX12_map_280 (by decide) ?_
      refine lv_isub hx hb dX12_map_283 ?_
      refine x_aload_n C hl dX12_map_284 rfl ?_
      refine x_get C hW (t := 12) (k := 23) t1 kl_12 (by decide) fl_X12_74 (v := rv b0 (mR σ l0 23)) rfl dX12_map_285 ?_
      refine x_iload_n C hl dX12_map_288 rfl ?_
      have t3 := h.1
      replace h := h.2
      have v4 := h.1
      replace h := h.2
      refine x_lald C hW t3 v4 dX12_map_289 ?_
      have v5 := h.1
      replace h := h.2
      refine x_last C hW hS t3 v5 dX12_map_290 (fun H locs hW hS => ?_)
      obtain ⟨s6, e_s6⟩ : ∃ z : Mem, z = (sJ σ (mR σ l0 23) (l2 - (1600 : Int32)).toNatClampNeg (mJ σ (mR σ l0 23) l2.toNatClampNeg)) := ⟨_, rfl⟩
      replace h := h s6 e_s6
      replace hW : Wd G D tc b0 s6 H := by rw [e_s6]; exact hW
      refine x_iinc C hl dX12_map_291 rfl (v := (1 : Int32)) (by decide) (by decide) rfl (fun ls hl => ?_)
      refine lv_goto hx hb dX12_map_294 (tgt := 267) rfl ?_
      exact hK267 _ _ _ _ _ hS hW (hl.keep [true, false, true, false] rfl) h
set_option maxRecDepth 20000 in
set_option maxHeartbeats 4000000 in
theorem t_X12_map_267 {p : Program} {l : Launch} {e : Env} {s : State} {m : MethodId} {args : Array Value} {below : List Frame} {meth : Method} {c : Code} {H : Heap} {locs : List Loc} {D : va_G} {tc : Nat → ClassId} {b0 : Nat} {ls : Array Slot} {G : Lay} {Qx : Int32 → Mem → Prop} {l0 : Nat} {l2 : Int32}  {σ : Mem} (C : Cx p s m args meth c cX12_map RX12 4 D tc b0) (hr : meth.sig.returnType = (some FieldType.int)) (hS : va_S (AA b0) s.heap H locs) (hW : Wd G D tc b0 σ H) (hl : hL b0 ls 4 [some (.inr (.inr l0)), none, some (.inl l2), none]) (h : X_X12_map_267 G Qx l0 l2 σ) : W p l e rm_X12_map s m args below meth c H locs 0 0 (MQ below (va_Qi Qx (fun u t => Pw G D tc b0 u t) (AA b0)) args s 0 0 (AA b0)) (F0 m 267 ls []) := by
  obtain ⟨n, h⟩ := h
  exact t_X12_map_267_n C hr n l2 σ H locs ls hS hW hl h
set_option maxRecDepth 20000 in
set_option maxHeartbeats 4000000 in
theorem t_X12_map_36_n {p : Program} {l : Launch} {e : Env} {s : State} {m : MethodId} {args : Array Value} {below : List Frame} {meth : Method} {c : Code} {D : va_G} {tc : Nat → ClassId} {b0 : Nat} {G : Lay} {Qx : Int32 → Mem → Prop} {l0 : Nat} (C : Cx p s m args meth c cX12_map RX12 4 D tc b0) (hr : meth.sig.returnType = (some FieldType.int)) (n : Nat) : ∀ (l2 : Int32) (σ : Mem) (H : Heap) (locs : List Loc) (ls : Array Slot), va_S (AA b0) s.heap H locs → Wd G D tc b0 σ H → hL b0 ls 4 [some (.inr (.inr l0)), none, some (.inl l2), none] → Lp (X_X12_map_36_s G Qx l0) n (l2, σ) → W p l e rm_X12_map s m args below meth c H locs 0 0 (MQ below (va_Qi Qx (fun u t => Pw G D tc b0 u t) (AA b0)) args s 0 0 (AA b0)) (F0 m 36 ls []) := by
  have hx := C.1
  have hb := C.2.1
  induction n with
  | zero => intro l2 σ H locs ls hS hW hl h; exact False.elim h
  | succ n hK36 =>
    intro l2 σ H locs ls hS hW hl h
    replace h : X_X12_map_36_s G Qx l0 (Lp (X_X12_map_36_s G Qx l0) n) (l2, σ) := h
    unfold X_X12_map_36_s at h
    refine x_iload_n C hl dX12_map_36 rfl ?_
    refine x_aload_n C hl dX12_map_37 rfl ?_
    have t1 := h.1
    replace h := h.2
    refine x_get C hW (t := 12) (k := 56) t1 kl_12 (by decide) fl_X12_291 (v := .int (mI σ l0 56)) rfl dX12_map_38 ?_
    refine lv_icmp_ge hx hb dX12_map_41 (tgt := 263) rfl (fun hc => ?_) (fun hc => ?_)
    · replace h := h.1 hc
      refine lv_sipush (v := (1600 : Int32)) hx hb dX12_map_263 (by decide) ?_
      refine x_istore_n C hl dX12_map_266 (by decide) rfl (fun ls hl => ?_)
      exact t_X12_map_267 C hr hS hW (hl.keep [true, false, true, false] rfl) h
    · replace h := h.2 hc
      refine x_aload_n C hl dX12_map_44 rfl ?_
      refine x_get C hW (t := 12) (k := 3) t1 kl_12 (by decide) fl_X12_13 (v := rv b0 (mR σ l0 3)) rfl dX12_map_45 ?_
      refine x_iload_n C hl dX12_map_48 rfl ?_
      refine x_aload_n C hl dX12_map_49 rfl ?_
      refine x_get C hW (t := 12) (k := 3) t1 kl_12 (by decide) fl_X12_13 (v := rv b0 (mR σ l0 3)) rfl dX12_map_50 ?_
      refine lv_bipush (v := (13 : Int32)) hx hb dX12_map_53 (by decide) ?_
      refine x_iload_n C hl dX12_map_55 rfl ?_
      refine lv_iadd hx hb dX12_map_56 ?_
      have t2 := h.1
      replace h := h.2
      have v3 := h.1
      replace h := h.2
      refine x_lald C hW t2 v3 dX12_map_57 ?_
      have v4 := h.1
      replace h := h.2
      refine x_last C hW hS t2 v4 dX12_map_58 (fun H locs hW hS => ?_)
      obtain ⟨s5, e_s5⟩ : ∃ z : Mem, z = (sJ σ (mR σ l0 3) l2.toNatClampNeg (mJ σ (mR σ l0 3) ((13 : Int32) + l2).toNatClampNeg)) := ⟨_, rfl⟩
      replace h := h s5 e_s5
      replace hW : Wd G D tc b0 s5 H := by rw [e_s5]; exact hW
      refine x_aload_n C hl dX12_map_59 rfl ?_
      refine x_get C hW (t := 12) (k := 4) t1 kl_12 (by decide) fl_X12_17 (v := rv b0 (mR s5 l0 4)) rfl dX12_map_60 ?_
      refine x_iload_n C hl dX12_map_63 rfl ?_
      refine x_aload_n C hl dX12_map_64 rfl ?_
      refine x_get C hW (t := 12) (k := 4) t1 kl_12 (by decide) fl_X12_17 (v := rv b0 (mR s5 l0 4)) rfl dX12_map_65 ?_
      refine lv_bipush (v := (13 : Int32)) hx hb dX12_map_68 (by decide) ?_
      refine x_iload_n C hl dX12_map_70 rfl ?_
      refine lv_iadd hx hb dX12_map_71 ?_
      have t6 := h.1
      replace h := h.2
      have v7 := h.1
      replace h := h.2
      refine x_iald C hW t6 v7 dX12_map_72 ?_
      have v8 := h.1
      replace h := h.2
      refine x_iast C hW hS t6 v8 dX12_map_73 (fun H locs hW hS => ?_)
      obtain ⟨s9, e_s9⟩ : ∃ z : Mem, z = (sI s5 (mR s5 l0 4) l2.toNatClampNeg (mI s5 (mR s5 l0 4) ((13 : Int32) + l2).toNatClampNeg)) := ⟨_, rfl⟩
      replace h := h s9 e_s9
      replace hW : Wd G D tc b0 s9 H := by rw [e_s9]; exact hW
      refine x_aload_n C hl dX12_map_74 rfl ?_
      refine x_get C hW (t := 12) (k := 5) t1 kl_12 (by decide) fl_X12_20 (v := rv b0 (mR s9 l0 5)) rfl dX12_map_75 ?_
      refine x_iload_n C hl dX12_map_78 rfl ?_
      refine x_aload_n C hl dX12_map_79 rfl ?_
      refine x_get C hW (t := 12) (k := 5) t1 kl_12 (by decide) fl_X12_20 (v := rv b0 (mR s9 l0 5)) rfl dX12_map_80 ?_
      refine lv_bipush (v := (13 : Int32)) hx hb dX12_map_83 (by decide) ?_
      refine x_iload_n C hl dX12_map_85 rfl ?_
      refine lv_iadd hx hb dX12_map_86 ?_
      have t10 := h.1
      replace h := h.2
      have v11 := h.1
      replace h := h.2
      refine x_iald C hW t10 v11 dX12_map_87 ?_
      have v12 := h.1
      replace h := h.2
      refine x_iast C hW hS t10 v12 dX12_map_88 (fun H locs hW hS => ?_)
      obtain ⟨s13, e_s13⟩ : ∃ z : Mem, z = (sI s9 (mR s9 l0 5) l2.toNatClampNeg (mI s9 (mR s9 l0 5) ((13 : Int32) + l2).toNatClampNeg)) := ⟨_, rfl⟩
      replace h := h s13 e_s13
      replace hW : Wd G D tc b0 s13 H := by rw [e_s13]; exact hW
      refine x_aload_n C hl dX12_map_89 rfl ?_
      refine x_get C hW (t := 12) (k := 6) t1 kl_12 (by decide) fl_X12_23 (v := rv b0 (mR s13 l0 6)) rfl dX12_map_90 ?_
      refine x_iload_n C hl dX12_map_93 rfl ?_
      refine x_aload_n C hl dX12_map_94 rfl ?_
      refine x_get C hW (t := 12) (k := 6) t1 kl_12 (by decide) fl_X12_23 (v := rv b0 (mR s13 l0 6)) rfl dX12_map_95 ?_
      refine lv_bipush (v := (13 : Int32)) hx hb dX12_map_98 (by decide) ?_
      refine x_iload_n C hl dX12_map_100 rfl ?_
      refine lv_iadd hx hb dX12_map_101 ?_
      have t14 := h.1
      replace h := h.2
      have v15 := h.1
      replace h := h.2
      refine x_iald C hW t14 v15 dX12_map_102 ?_
      have v16 := h.1
      replace h := h.2
      refine x_iast C hW hS t14 v16 dX12_map_103 (fun H locs hW hS => ?_)
      obtain ⟨s17, e_s17⟩ : ∃ z : Mem, z = (sI s13 (mR s13 l0 6) l2.toNatClampNeg (mI s13 (mR s13 l0 6) ((13 : Int32) + l2).toNatClampNeg)) := ⟨_, rfl⟩
      replace h := h s17 e_s17
      replace hW : Wd G D tc b0 s17 H := by rw [e_s17]; exact hW
      refine x_aload_n C hl dX12_map_104 rfl ?_
      refine x_get C hW (t := 12) (k := 7) t1 kl_12 (by decide) fl_X12_26 (v := rv b0 (mR s17 l0 7)) rfl dX12_map_105 ?_
      refine x_iload_n C hl dX12_map_108 rfl ?_
      refine x_aload_n C hl dX12_map_109 rfl ?_
      refine x_get C hW (t := 12) (k := 7) t1 kl_12 (by decide) fl_X12_26 (v := rv b0 (mR s17 l0 7)) rfl dX12_map_110 ?_
      refine lv_bipush (v := (13 : Int32)) hx hb dX12_map_113 (by decide) ?_
      refine x_iload_n C hl dX12_map_115 rfl ?_
      refine lv_iadd hx hb dX12_map_116 ?_
      have t18 := h.1
      replace h := h.2
      have v19 := h.1
      replace h := h.2
      refine x_iald C hW t18 v19 dX12_map_117 ?_
      have v20 := h.1
      replace h := h.2
      refine x_iast C hW hS t18 v20 dX12_map_118 (fun H locs hW hS => ?_)
      obtain ⟨s21, e_s21⟩ : ∃ z : Mem, z = (sI s17 (mR s17 l0 7) l2.toNatClampNeg (mI s17 (mR s17 l0 7) ((13 : Int32) + l2).toNatClampNeg)) := ⟨_, rfl⟩
      replace h := h s21 e_s21
      replace hW : Wd G D tc b0 s21 H := by rw [e_s21]; exact hW
      refine lv_iconst (v := (0 : Int32)) hx hb dX12_map_119 (by decide) ?_
      refine x_istore_n C hl dX12_map_120 (by decide) rfl (fun ls hl => ?_)
      exact t_X12_map_121 C hr hK36 hS hW (hl.keep [true, false, true, true] rfl) h
set_option maxRecDepth 20000 in
set_option maxHeartbeats 4000000 in
theorem t_X12_map_36 {p : Program} {l : Launch} {e : Env} {s : State} {m : MethodId} {args : Array Value} {below : List Frame} {meth : Method} {c : Code} {H : Heap} {locs : List Loc} {D : va_G} {tc : Nat → ClassId} {b0 : Nat} {ls : Array Slot} {G : Lay} {Qx : Int32 → Mem → Prop} {l0 : Nat} {l2 : Int32}  {σ : Mem} (C : Cx p s m args meth c cX12_map RX12 4 D tc b0) (hr : meth.sig.returnType = (some FieldType.int)) (hS : va_S (AA b0) s.heap H locs) (hW : Wd G D tc b0 σ H) (hl : hL b0 ls 4 [some (.inr (.inr l0)), none, some (.inl l2), none]) (h : X_X12_map_36 G Qx l0 l2 σ) : W p l e rm_X12_map s m args below meth c H locs 0 0 (MQ below (va_Qi Qx (fun u t => Pw G D tc b0 u t) (AA b0)) args s 0 0 (AA b0)) (F0 m 36 ls []) := by
  obtain ⟨n, h⟩ := h
  exact t_X12_map_36_n C hr n l2 σ H locs ls hS hW hl h
set_option maxRecDepth 20000 in
set_option maxHeartbeats 4000000 in
theorem t_X12_map_0 {p : Program} {l : Launch} {e : Env} {s : State} {m : MethodId} {args : Array Value} {below : List Frame} {meth : Method} {c : Code} {H : Heap} {locs : List Loc} {D : va_G} {tc : Nat → ClassId} {b0 : Nat} {ls : Array Slot} {G : Lay} {Qx : Int32 → Mem → Prop} {l0 : Nat}  {σ : Mem} (C : Cx p s m args meth c cX12_map RX12 4 D tc b0) (hr : meth.sig.returnType = (some FieldType.int)) (hS : va_S (AA b0) s.heap H locs) (hW : Wd G D tc b0 σ H) (hl : hL b0 ls 4 [some (.inr (.inr l0)), none, none, none]) (h : X_X12_map_0 G Qx l0  σ) : W p l e rm_X12_map s m args below meth c H locs 0 0 (MQ below (va_Qi Qx (fun u t => Pw G D tc b0 u t) (AA b0)) args s 0 0 (AA b0)) (F0 m 0 ls []) := by
  have hx := C.1
  have hb := C.2.1
  unfold X_X12_map_0 at h
  refine x_aload_n C hl dX12_map_0 rfl ?_
  refine lv_iconst (v := (0 : Int32)) hx hb dX12_map_1 (by decide) ?_
  have t1 := h.1
  replace h := h.2
  refine x_putI C hW hS (t := 12) (k := 54) t1 kl_12 (by decide) fl_X12_258 rfl rfl rfl rfl dX12_map_2 (fun H locs hW hS => ?_)
  obtain ⟨s2, e_s2⟩ : ∃ z : Mem, z = (sI σ l0 54 (0 : Int32)) := ⟨_, rfl⟩
  replace h := h s2 e_s2
  replace hW : Wd G D tc b0 s2 H := by rw [e_s2]; exact hW
  refine x_aload_n C hl dX12_map_5 rfl ?_
  refine lv_iconst (v := (-1 : Int32)) hx hb dX12_map_6 (by decide) ?_
  refine x_putI C hW hS (t := 12) (k := 55) t1 kl_12 (by decide) fl_X12_141 rfl rfl rfl rfl dX12_map_7 (fun H locs hW hS => ?_)
  obtain ⟨s3, e_s3⟩ : ∃ z : Mem, z = (sI s2 l0 55 (-1 : Int32)) := ⟨_, rfl⟩
  replace h := h s3 e_s3
  replace hW : Wd G D tc b0 s3 H := by rw [e_s3]; exact hW
  refine x_aload_n C hl dX12_map_10 rfl ?_
  refine y_i (x_run (As := []) C hW hS (T_X12_readClasses l l0 s3 _ h) t1 kl_12 (CW.of yv_X12_readClasses ml_X12_338) ⟨rfl, rfl, ⟨by decide, by decide⟩, by decide, by decide⟩ rfl hl.1 rfl (by decide) dX12_map_11) hS (fun w5 s4 H locs h hW hS => ?_)
  refine x_istore_n C hl dX12_map_14 (by decide) rfl (fun ls hl => ?_)
  refine x_aload_n C hl dX12_map_15 rfl ?_
  refine lv_iconst (v := (0 : Int32)) hx hb dX12_map_16 (by decide) ?_
  refine x_putI C hW hS (t := 12) (k := 1) t1 kl_12 (by decide) fl_X12_223 rfl rfl rfl rfl dX12_map_17 (fun H locs hW hS => ?_)
  obtain ⟨s6, e_s6⟩ : ∃ z : Mem, z = (sI s4 l0 1 (0 : Int32)) := ⟨_, rfl⟩
  replace h := h s6 e_s6
  replace hW : Wd G D tc b0 s6 H := by rw [e_s6]; exact hW
  refine x_iload_n C hl dX12_map_20 rfl ?_
  refine lv_if_ne hx hb dX12_map_21 (tgt := 26) rfl (fun hc => ?_) (fun hc => ?_)
  · replace h := h.2 hc
    refine x_aload_n C hl dX12_map_26 rfl ?_
    refine x_aload_n C hl dX12_map_27 rfl ?_
    refine x_get C hW (t := 12) (k := 56) t1 kl_12 (by decide) fl_X12_291 (v := .int (mI s6 l0 56)) rfl dX12_map_28 ?_
    refine x_putI C hW hS (t := 12) (k := 2) t1 kl_12 (by decide) fl_X12_341 rfl rfl rfl rfl dX12_map_31 (fun H locs hW hS => ?_)
    obtain ⟨s7, e_s7⟩ : ∃ z : Mem, z = (sI s6 l0 2 (mI s6 l0 56)) := ⟨_, rfl⟩
    replace h := h s7 e_s7
    replace hW : Wd G D tc b0 s7 H := by rw [e_s7]; exact hW
    refine lv_iconst (v := (0 : Int32)) hx hb dX12_map_34 (by decide) ?_
    refine x_istore_n C hl dX12_map_35 (by decide) rfl (fun ls hl => ?_)
    exact t_X12_map_36 C hr hS hW (hl.keep [true, false, true, false] rfl) h
  · replace h := h.1 hc
    refine lv_iconst (v := (-1 : Int32)) hx hb dX12_map_24 (by decide) ?_
    exact r_i C hr hW hS h dX12_map_25
theorem T_X12_map (l : Launch) {G : Lay} {D : va_G} {tc : Nat → ClassId} {b0 : Nat} (l0 : Nat) (σ : Mem) (Qx : Int32 → Mem → Prop) (h : X_X12_map G Qx l0 σ) : MI l yX12_map cX12_map 4 ((some FieldType.int)) rm_X12_map G D tc b0 [rv b0 l0] σ Qx :=
  x_entry (y := yX12_map) [.inr (.inr l0)] 3 (by decide) (Nat.le_of_ble_eq_true rfl) (fun p e s m args below meth c ls C hr hW hl => t_X12_map_0 C hr va_S.rf hW (hl.keep [true, false, false, false] rfl) h)
/-! X12_fault -/
set_option maxRecDepth 20000 in
set_option maxHeartbeats 4000000 in
theorem t_X12_fault_24 {p : Program} {l : Launch} {e : Env} {s : State} {m : MethodId} {args : Array Value} {below : List Frame} {meth : Method} {c : Code} {H : Heap} {locs : List Loc} {D : va_G} {tc : Nat → ClassId} {b0 : Nat} {ls : Array Slot} {G : Lay} {Qx : Int32 → Mem → Prop}  {k0 : Int32} {σ : Mem} (C : Cx p s m args meth c cX12_fault RX12 2 D tc b0) (hr : meth.sig.returnType = (some FieldType.int)) (hS : va_S (AA b0) s.heap H locs) (hW : Wd G D tc b0 σ H) (hl : hL b0 ls 2 [none, none]) (h : X_X12_fault_24 G Qx  k0 σ) : W p l e rm_X12_fault s m args below meth c H locs 0 0 (MQ below (va_Qi Qx (fun u t => Pw G D tc b0 u t) (AA b0)) args s 0 0 (AA b0)) (F0 m 24 ls [.int k0]) := by
  have hx := C.1
  have hb := C.2.1
  unfold X_X12_fault_24 at h
  exact r_i C hr hW hS h dX12_fault_24
set_option maxRecDepth 20000 in
set_option maxHeartbeats 4000000 in
theorem t_X12_fault_0 {p : Program} {l : Launch} {e : Env} {s : State} {m : MethodId} {args : Array Value} {below : List Frame} {meth : Method} {c : Code} {H : Heap} {locs : List Loc} {D : va_G} {tc : Nat → ClassId} {b0 : Nat} {ls : Array Slot} {G : Lay} {Qx : Int32 → Mem → Prop} {l0 : Nat} {l1 : Int32}  {σ : Mem} (C : Cx p s m args meth c cX12_fault RX12 2 D tc b0) (hr : meth.sig.returnType = (some FieldType.int)) (hS : va_S (AA b0) s.heap H locs) (hW : Wd G D tc b0 σ H) (hl : hL b0 ls 2 [some (.inr (.inr l0)), some (.inl l1)]) (h : X_X12_fault_0 G Qx l0 l1  σ) : W p l e rm_X12_fault s m args below meth c H locs 0 0 (MQ below (va_Qi Qx (fun u t => Pw G D tc b0 u t) (AA b0)) args s 0 0 (AA b0)) (F0 m 0 ls []) := by
  have hx := C.1
  have hb := C.2.1
  unfold X_X12_fault_0 at h
  refine x_iload_n C hl dX12_fault_0 rfl ?_
  refine lv_if_ne hx hb dX12_fault_1 (tgt := 11) rfl (fun hc => ?_) (fun hc => ?_)
  · replace h := h.2 hc
    refine x_iload_n C hl dX12_fault_11 rfl ?_
    refine lv_iconst (v := (1 : Int32)) hx hb dX12_fault_12 (by decide) ?_
    refine lv_icmp_ne hx hb dX12_fault_13 (tgt := 23) rfl (fun hc => ?_) (fun hc => ?_)
    · replace h := h.2 hc
      refine lv_iconst (v := (-1 : Int32)) hx hb dX12_fault_23 (by decide) ?_
      exact t_X12_fault_24 C hr hS hW (hl.keep [false, false] rfl) h
    · replace h := h.1 hc
      refine x_aload_n C hl dX12_fault_16 rfl ?_
      have t1 := h.1
      replace h := h.2
      refine x_get C hW (t := 12) (k := 55) t1 kl_12 (by decide) fl_X12_141 (v := .int (mI σ l0 55)) rfl dX12_fault_17 ?_
      refine lv_goto hx hb dX12_fault_20 (tgt := 24) rfl ?_
      exact t_X12_fault_24 C hr hS hW (hl.keep [false, false] rfl) h
  · replace h := h.1 hc
    refine x_aload_n C hl dX12_fault_4 rfl ?_
    have t2 := h.1
    replace h := h.2
    refine x_get C hW (t := 12) (k := 54) t2 kl_12 (by decide) fl_X12_258 (v := .int (mI σ l0 54)) rfl dX12_fault_5 ?_
    refine lv_goto hx hb dX12_fault_8 (tgt := 24) rfl ?_
    exact t_X12_fault_24 C hr hS hW (hl.keep [false, false] rfl) h
theorem T_X12_fault (l : Launch) {G : Lay} {D : va_G} {tc : Nat → ClassId} {b0 : Nat} (l0 : Nat) (l1 : Int32) (σ : Mem) (Qx : Int32 → Mem → Prop) (h : X_X12_fault G Qx l0 l1 σ) : MI l yX12_fault cX12_fault 2 ((some FieldType.int)) rm_X12_fault G D tc b0 [rv b0 l0, .int l1] σ Qx :=
  x_entry (y := yX12_fault) [.inr (.inr l0), .inl l1] 0 (by decide) (Nat.le_of_ble_eq_true rfl) (fun p e s m args below meth c ls C hr hW hl => t_X12_fault_0 C hr va_S.rf hW (hl.keep [true, true] rfl) h)
/-! X12_isClass -/
set_option maxRecDepth 20000 in
set_option maxHeartbeats 4000000 in
theorem t_X12_isClass_17 {p : Program} {l : Launch} {e : Env} {s : State} {m : MethodId} {args : Array Value} {below : List Frame} {meth : Method} {c : Code} {H : Heap} {locs : List Loc} {D : va_G} {tc : Nat → ClassId} {b0 : Nat} {ls : Array Slot} {G : Lay} {Qx : Int32 → Mem → Prop}  {k0 : Int32} {σ : Mem} (C : Cx p s m args meth c cX12_isClass RX12 2 D tc b0) (hr : meth.sig.returnType = (some FieldType.boolean)) (hS : va_S (AA b0) s.heap H locs) (hW : Wd G D tc b0 σ H) (hl : hL b0 ls 2 [none, none]) (h : X_X12_isClass_17 G Qx  k0 σ) : W p l e rm_X12_isClass s m args below meth c H locs 0 0 (MQ below (va_Qi Qx (fun u t => Pw G D tc b0 u t) (AA b0)) args s 0 0 (AA b0)) (F0 m 17 ls [.int k0]) := by
  have hx := C.1
  have hb := C.2.1
  unfold X_X12_isClass_17 at h
  exact r_z C hr hW hS h.1 h.2 dX12_isClass_17
set_option maxRecDepth 20000 in
set_option maxHeartbeats 4000000 in
theorem t_X12_isClass_16 {p : Program} {l : Launch} {e : Env} {s : State} {m : MethodId} {args : Array Value} {below : List Frame} {meth : Method} {c : Code} {H : Heap} {locs : List Loc} {D : va_G} {tc : Nat → ClassId} {b0 : Nat} {ls : Array Slot} {G : Lay} {Qx : Int32 → Mem → Prop}   {σ : Mem} (C : Cx p s m args meth c cX12_isClass RX12 2 D tc b0) (hr : meth.sig.returnType = (some FieldType.boolean)) (hS : va_S (AA b0) s.heap H locs) (hW : Wd G D tc b0 σ H) (hl : hL b0 ls 2 [none, none]) (h : X_X12_isClass_16 G Qx   σ) : W p l e rm_X12_isClass s m args below meth c H locs 0 0 (MQ below (va_Qi Qx (fun u t => Pw G D tc b0 u t) (AA b0)) args s 0 0 (AA b0)) (F0 m 16 ls []) := by
  have hx := C.1
  have hb := C.2.1
  unfold X_X12_isClass_16 at h
  refine lv_iconst (v := (0 : Int32)) hx hb dX12_isClass_16 (by decide) ?_
  exact t_X12_isClass_17 C hr hS hW (hl.keep [false, false] rfl) h
set_option maxRecDepth 20000 in
set_option maxHeartbeats 4000000 in
theorem t_X12_isClass_0 {p : Program} {l : Launch} {e : Env} {s : State} {m : MethodId} {args : Array Value} {below : List Frame} {meth : Method} {c : Code} {H : Heap} {locs : List Loc} {D : va_G} {tc : Nat → ClassId} {b0 : Nat} {ls : Array Slot} {G : Lay} {Qx : Int32 → Mem → Prop} {l0 : Nat} {l1 : Int32}  {σ : Mem} (C : Cx p s m args meth c cX12_isClass RX12 2 D tc b0) (hr : meth.sig.returnType = (some FieldType.boolean)) (hS : va_S (AA b0) s.heap H locs) (hW : Wd G D tc b0 σ H) (hl : hL b0 ls 2 [some (.inr (.inr l0)), some (.inl l1)]) (h : X_X12_isClass_0 G Qx l0 l1  σ) : W p l e rm_X12_isClass s m args below meth c H locs 0 0 (MQ below (va_Qi Qx (fun u t => Pw G D tc b0 u t) (AA b0)) args s 0 0 (AA b0)) (F0 m 0 ls []) := by
  have hx := C.1
  have hb := C.2.1
  unfold X_X12_isClass_0 at h
  refine x_iload_n C hl dX12_isClass_0 rfl ?_
  refine lv_if_lt hx hb dX12_isClass_1 (tgt := 16) rfl (fun hc => ?_) (fun hc => ?_)
  · replace h := h.1 hc
    exact t_X12_isClass_16 C hr hS hW (hl.keep [false, false] rfl) h
  · replace h := h.2 hc
    refine x_iload_n C hl dX12_isClass_4 rfl ?_
    refine x_aload_n C hl dX12_isClass_5 rfl ?_
    have t1 := h.1
    replace h := h.2
    refine x_get C hW (t := 12) (k := 2) t1 kl_12 (by decide) fl_X12_341 (v := .int (mI σ l0 2)) rfl dX12_isClass_6 ?_
    refine lv_icmp_ge hx hb dX12_isClass_9 (tgt := 16) rfl (fun hc => ?_) (fun hc => ?_)
    · replace h := h.1 hc
      exact t_X12_isClass_16 C hr hS hW (hl.keep [false, false] rfl) h
    · replace h := h.2 hc
      refine lv_iconst (v := (1 : Int32)) hx hb dX12_isClass_12 (by decide) ?_
      refine lv_goto hx hb dX12_isClass_13 (tgt := 17) rfl ?_
      exact t_X12_isClass_17 C hr hS hW (hl.keep [false, false] rfl) h
theorem T_X12_isClass (l : Launch) {G : Lay} {D : va_G} {tc : Nat → ClassId} {b0 : Nat} (l0 : Nat) (l1 : Int32) (σ : Mem) (Qx : Int32 → Mem → Prop) (h : X_X12_isClass G Qx l0 l1 σ) : MI l yX12_isClass cX12_isClass 2 ((some FieldType.boolean)) rm_X12_isClass G D tc b0 [rv b0 l0, .int l1] σ Qx :=
  x_entry (y := yX12_isClass) [.inr (.inr l0), .inl l1] 0 (by decide) (Nat.le_of_ble_eq_true rfl) (fun p e s m args below meth c ls C hr hW hl => t_X12_isClass_0 C hr va_S.rf hW (hl.keep [true, true] rfl) h)
