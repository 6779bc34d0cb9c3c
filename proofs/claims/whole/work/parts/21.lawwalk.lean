set_option maxRecDepth 20000 in
set_option maxHeartbeats 4000000 in
theorem t_L_992 {p : Program} {l : Launch} {e : Env} {s : State} {m : MethodId} {below : List Frame} {meth : Method} {c : Code} {D : va_G} {tc : Nat → ClassId} {b0 b L : Nat} {xs : Nat → Int32} {G : Lay} {l1 l2 : Nat} {K : Int32 × Mem → Prop} {l3 : Int32} {σ : Mem} {H : Heap} {locs : List Loc} {ls : Array Slot} (C : Cx p s m #[Value.ref b] meth c cL_law RL 4 D tc b0) (hX : va_X b L xs s s.heap) (hbl : b < s.heap.size) (hbA : ¬ AA b0 b) (hl : hLb b0 b ls 4 [none, some (.inr (.inr l1)), some (.inr (.inr l2)), some (.inl l3)]) (hS : va_S (AA b0) s.heap H locs) (hW : Wd G D tc b0 σ H) (hK : ∀ (l3 : Int32) (σ : Mem) (H : Heap) (locs : List Loc) (ls : Array Slot), va_S (AA b0) s.heap H locs → Wd G D tc b0 σ H → hLb b0 b ls 4 [none, some (.inr (.inr l1)), some (.inr (.inr l2)), some (.inl l3)] → K (l3, σ) → W p l e room_1 s m #[Value.ref b] below meth c H locs 1347 147115 (lw_Z below #[Value.ref b] s) (F0 m 18 ls [])) (h : K (l3 + 6, σ)) : W p l e room_1 s m #[Value.ref b] below meth c H locs 1347 147115 (lw_Z below #[Value.ref b] s) (F0 m 992 ls []) := by
  have hx := C.1
  have hb := C.2.1
  refine z_iinc C hl dL_law_992 rfl (v := (6 : Int32)) (by decide) (by decide) (by decide) rfl (fun ls hl => ?_)
  refine lv_goto hx hb dL_law_995 (tgt := 18) rfl ?_
  exact hK _ _ _ _ _ hS hW hl h
set_option maxRecDepth 20000 in
set_option maxHeartbeats 4000000 in
theorem t_L_c0 {p : Program} {l : Launch} {e : Env} {s : State} {m : MethodId} {below : List Frame} {meth : Method} {c : Code} {D : va_G} {tc : Nat → ClassId} {b0 b L : Nat} {xs : Nat → Int32} {G : Lay} {l1 l2 : Nat} {K : Int32 × Mem → Prop} {l3 : Int32} {σ : Mem} {H : Heap} {locs : List Loc} {ls : Array Slot} (C : Cx p s m #[Value.ref b] meth c cL_law RL 4 D tc b0) (hX : va_X b L xs s s.heap) (hbl : b < s.heap.size) (hbA : ¬ AA b0 b) (t11 : gT G l1 = 12) (t12 : gT G l2 = 13) (hl : hLb b0 b ls 4 [none, some (.inr (.inr l1)), some (.inr (.inr l2)), some (.inl l3)]) (hS : va_S (AA b0) s.heap H locs) (hW : Wd G D tc b0 σ H) (hK : ∀ (l3 : Int32) (σ : Mem) (H : Heap) (locs : List Loc) (ls : Array Slot), va_S (AA b0) s.heap H locs → Wd G D tc b0 σ H → hLb b0 b ls 4 [none, some (.inr (.inr l1)), some (.inr (.inr l2)), some (.inl l3)] → K (l3, σ) → W p l e room_1 s m #[Value.ref b] below meth c H locs 1347 147115 (lw_Z below #[Value.ref b] s) (F0 m 18 ls [])) (h : X_L_c0 G xs L l1 l2 K l3 σ) : W p l e room_1 s m #[Value.ref b] below meth c H locs 1347 147115 (lw_Z below #[Value.ref b] s) (F0 m 152 ls []) := by
  have hx := C.1
  have hb := C.2.1
  unfold X_L_c0 at h
  refine x_aload_n C hl.1 dL_law_152 rfl ?_
  refine lv_aload_n hx hb dL_law_153 rfl hl.2 ?_
  refine x_iload_n C hl.1 dL_law_154 rfl ?_
  refine lv_iconst (v := (1 : Int32)) hx hb dL_law_155 (by decide) ?_
  refine lv_iadd hx hb dL_law_156 ?_
  have v1 := h.1
  replace h := h.2
  refine va_sld hx hb hX hbl hbA hS v1 dL_law_157 ?_
  refine lv_aload_n hx hb dL_law_158 rfl hl.2 ?_
  refine x_iload_n C hl.1 dL_law_159 rfl ?_
  refine lv_iconst (v := (2 : Int32)) hx hb dL_law_160 (by decide) ?_
  refine lv_iadd hx hb dL_law_161 ?_
  have v2 := h.1
  replace h := h.2
  refine va_sld hx hb hX hbl hbA hS v2 dL_law_162 ?_
  refine lv_aload_n hx hb dL_law_163 rfl hl.2 ?_
  refine x_iload_n C hl.1 dL_law_164 rfl ?_
  refine lv_iconst (v := (3 : Int32)) hx hb dL_law_165 (by decide) ?_
  refine lv_iadd hx hb dL_law_166 ?_
  have v3 := h.1
  replace h := h.2
  refine va_sld hx hb hX hbl hbA hS v3 dL_law_167 ?_
  refine lv_aload_n hx hb dL_law_168 rfl hl.2 ?_
  refine x_iload_n C hl.1 dL_law_169 rfl ?_
  refine lv_iconst (v := (4 : Int32)) hx hb dL_law_170 (by decide) ?_
  refine lv_iadd hx hb dL_law_171 ?_
  have v4 := h.1
  replace h := h.2
  refine va_sld hx hb hX hbl hbA hS v4 dL_law_172 ?_
  refine lv_aload_n hx hb dL_law_173 rfl hl.2 ?_
  refine x_iload_n C hl.1 dL_law_174 rfl ?_
  refine lv_iconst (v := (5 : Int32)) hx hb dL_law_175 (by decide) ?_
  refine lv_iadd hx hb dL_law_176 ?_
  have v5 := h.1
  replace h := h.2
  refine va_sld hx hb hX hbl hbA hS v5 dL_law_177 ?_
  refine y_i (x_run (As := [.int (xs (l3 + (1 : Int32)).toNatClampNeg), .int (xs (l3 + (2 : Int32)).toNatClampNeg), .int (xs (l3 + (3 : Int32)).toNatClampNeg), .int (xs (l3 + (4 : Int32)).toNatClampNeg), .int (xs (l3 + (5 : Int32)).toNatClampNeg)]) C hW hS (T_X11_feed l l1 (xs (l3 + (1 : Int32)).toNatClampNeg) (xs (l3 + (2 : Int32)).toNatClampNeg) (xs (l3 + (3 : Int32)).toNatClampNeg) (xs (l3 + (4 : Int32)).toNatClampNeg) (xs (l3 + (5 : Int32)).toNatClampNeg) σ _ h) t11 kl_11 (CW.of yv_X11_feed ml_L_13) ⟨rfl, rfl, ⟨by decide, by decide⟩, by decide, by decide⟩ rfl hl.1.1 rfl (by decide) dL_law_178) hS (fun w7 s6 H locs h hW hS => ?_)
  refine x_aload_n C hl.1 dL_law_181 rfl ?_
  refine lv_aload_n hx hb dL_law_182 rfl hl.2 ?_
  refine x_iload_n C hl.1 dL_law_183 rfl ?_
  refine lv_iconst (v := (1 : Int32)) hx hb dL_law_184 (by decide) ?_
  refine lv_iadd hx hb dL_law_185 ?_
  refine va_sld hx hb hX hbl hbA hS v1 dL_law_186 ?_
  refine lv_aload_n hx hb dL_law_187 rfl hl.2 ?_
  refine x_iload_n C hl.1 dL_law_188 rfl ?_
  refine lv_iconst (v := (2 : Int32)) hx hb dL_law_189 (by decide) ?_
  refine lv_iadd hx hb dL_law_190 ?_
  refine va_sld hx hb hX hbl hbA hS v2 dL_law_191 ?_
  refine lv_aload_n hx hb dL_law_192 rfl hl.2 ?_
  refine x_iload_n C hl.1 dL_law_193 rfl ?_
  refine lv_iconst (v := (3 : Int32)) hx hb dL_law_194 (by decide) ?_
  refine lv_iadd hx hb dL_law_195 ?_
  refine va_sld hx hb hX hbl hbA hS v3 dL_law_196 ?_
  refine lv_aload_n hx hb dL_law_197 rfl hl.2 ?_
  refine x_iload_n C hl.1 dL_law_198 rfl ?_
  refine lv_iconst (v := (4 : Int32)) hx hb dL_law_199 (by decide) ?_
  refine lv_iadd hx hb dL_law_200 ?_
  refine va_sld hx hb hX hbl hbA hS v4 dL_law_201 ?_
  refine lv_aload_n hx hb dL_law_202 rfl hl.2 ?_
  refine x_iload_n C hl.1 dL_law_203 rfl ?_
  refine lv_iconst (v := (5 : Int32)) hx hb dL_law_204 (by decide) ?_
  refine lv_iadd hx hb dL_law_205 ?_
  refine va_sld hx hb hX hbl hbA hS v5 dL_law_206 ?_
  refine y_i (x_run (As := [.int (xs (l3 + (1 : Int32)).toNatClampNeg), .int (xs (l3 + (2 : Int32)).toNatClampNeg), .int (xs (l3 + (3 : Int32)).toNatClampNeg), .int (xs (l3 + (4 : Int32)).toNatClampNeg), .int (xs (l3 + (5 : Int32)).toNatClampNeg)]) C hW hS (T_X12_feed l l2 (xs (l3 + (1 : Int32)).toNatClampNeg) (xs (l3 + (2 : Int32)).toNatClampNeg) (xs (l3 + (3 : Int32)).toNatClampNeg) (xs (l3 + (4 : Int32)).toNatClampNeg) (xs (l3 + (5 : Int32)).toNatClampNeg) s6 _ h) t12 kl_12 (CW.of yv_X12_feed ml_L_17) ⟨rfl, rfl, ⟨by decide, by decide⟩, by decide, by decide⟩ rfl hl.1.1 rfl (by simp [rv_cat, cat_i, cat_l]) dL_law_207) hS (fun w9 s8 H locs h hW hS => ?_)
  refine lv_icmp_eq hx hb dL_law_210 (tgt := 992) rfl (fun hc => ?_) (fun hc => ?_)
  · replace h := h.1 hc
    exact t_L_992 C hX hbl hbA hl hS hW hK h
  · exact (h.2 hc).elim
set_option maxRecDepth 20000 in
set_option maxHeartbeats 4000000 in
theorem t_L_c1 {p : Program} {l : Launch} {e : Env} {s : State} {m : MethodId} {below : List Frame} {meth : Method} {c : Code} {D : va_G} {tc : Nat → ClassId} {b0 b L : Nat} {xs : Nat → Int32} {G : Lay} {l1 l2 : Nat} {K : Int32 × Mem → Prop} {l3 : Int32} {σ : Mem} {H : Heap} {locs : List Loc} {ls : Array Slot} (C : Cx p s m #[Value.ref b] meth c cL_law RL 4 D tc b0) (hX : va_X b L xs s s.heap) (hbl : b < s.heap.size) (hbA : ¬ AA b0 b) (t11 : gT G l1 = 12) (t12 : gT G l2 = 13) (hl : hLb b0 b ls 4 [none, some (.inr (.inr l1)), some (.inr (.inr l2)), some (.inl l3)]) (hS : va_S (AA b0) s.heap H locs) (hW : Wd G D tc b0 σ H) (hK : ∀ (l3 : Int32) (σ : Mem) (H : Heap) (locs : List Loc) (ls : Array Slot), va_S (AA b0) s.heap H locs → Wd G D tc b0 σ H → hLb b0 b ls 4 [none, some (.inr (.inr l1)), some (.inr (.inr l2)), some (.inl l3)] → K (l3, σ) → W p l e room_1 s m #[Value.ref b] below meth c H locs 1347 147115 (lw_Z below #[Value.ref b] s) (F0 m 18 ls [])) (h : X_L_c1 G xs L l1 l2 K l3 σ) : W p l e room_1 s m #[Value.ref b] below meth c H locs 1347 147115 (lw_Z below #[Value.ref b] s) (F0 m 215 ls []) := by
  have hx := C.1
  have hb := C.2.1
  unfold X_L_c1 at h
  refine x_aload_n C hl.1 dL_law_215 rfl ?_
  refine lv_aload_n hx hb dL_law_216 rfl hl.2 ?_
  refine x_iload_n C hl.1 dL_law_217 rfl ?_
  refine lv_iconst (v := (1 : Int32)) hx hb dL_law_218 (by decide) ?_
  refine lv_iadd hx hb dL_law_219 ?_
  have v10 := h.1
  replace h := h.2
  refine va_sld hx hb hX hbl hbA hS v10 dL_law_220 ?_
  refine y_i (x_run (As := [.int (xs (l3 + (1 : Int32)).toNatClampNeg)]) C hW hS (T_X11_end l l1 (xs (l3 + (1 : Int32)).toNatClampNeg) σ _ h) t11 kl_11 (CW.of yv_X11_end ml_L_18) ⟨rfl, rfl, ⟨by decide, by decide⟩, by decide, by decide⟩ rfl hl.1.1 rfl (by decide) dL_law_221) hS (fun w12 s11 H locs h hW hS => ?_)
  refine x_aload_n C hl.1 dL_law_224 rfl ?_
  refine lv_aload_n hx hb dL_law_225 rfl hl.2 ?_
  refine x_iload_n C hl.1 dL_law_226 rfl ?_
  refine lv_iconst (v := (1 : Int32)) hx hb dL_law_227 (by decide) ?_
  refine lv_iadd hx hb dL_law_228 ?_
  refine va_sld hx hb hX hbl hbA hS v10 dL_law_229 ?_
  refine y_i (x_run (As := [.int (xs (l3 + (1 : Int32)).toNatClampNeg)]) C hW hS (T_X12_end l l2 (xs (l3 + (1 : Int32)).toNatClampNeg) s11 _ h) t12 kl_12 (CW.of yv_X12_end ml_L_22) ⟨rfl, rfl, ⟨by decide, by decide⟩, by decide, by decide⟩ rfl hl.1.1 rfl (by simp [rv_cat, cat_i, cat_l]) dL_law_230) hS (fun w14 s13 H locs h hW hS => ?_)
  refine lv_icmp_eq hx hb dL_law_233 (tgt := 992) rfl (fun hc => ?_) (fun hc => ?_)
  · replace h := h.1 hc
    exact t_L_992 C hX hbl hbA hl hS hW hK h
  · exact (h.2 hc).elim
set_option maxRecDepth 20000 in
set_option maxHeartbeats 4000000 in
theorem t_L_c2 {p : Program} {l : Launch} {e : Env} {s : State} {m : MethodId} {below : List Frame} {meth : Method} {c : Code} {D : va_G} {tc : Nat → ClassId} {b0 b L : Nat} {xs : Nat → Int32} {G : Lay} {l1 l2 : Nat} {K : Int32 × Mem → Prop} {l3 : Int32} {σ : Mem} {H : Heap} {locs : List Loc} {ls : Array Slot} (C : Cx p s m #[Value.ref b] meth c cL_law RL 4 D tc b0) (hX : va_X b L xs s s.heap) (hbl : b < s.heap.size) (hbA : ¬ AA b0 b) (t11 : gT G l1 = 12) (t12 : gT G l2 = 13) (hl : hLb b0 b ls 4 [none, some (.inr (.inr l1)), some (.inr (.inr l2)), some (.inl l3)]) (hS : va_S (AA b0) s.heap H locs) (hW : Wd G D tc b0 σ H) (hK : ∀ (l3 : Int32) (σ : Mem) (H : Heap) (locs : List Loc) (ls : Array Slot), va_S (AA b0) s.heap H locs → Wd G D tc b0 σ H → hLb b0 b ls 4 [none, some (.inr (.inr l1)), some (.inr (.inr l2)), some (.inl l3)] → K (l3, σ) → W p l e room_1 s m #[Value.ref b] below meth c H locs 1347 147115 (lw_Z below #[Value.ref b] s) (F0 m 18 ls [])) (h : X_L_c2 G xs L l1 l2 K l3 σ) : W p l e room_1 s m #[Value.ref b] below meth c H locs 1347 147115 (lw_Z below #[Value.ref b] s) (F0 m 238 ls []) := by
  have hx := C.1
  have hb := C.2.1
  unfold X_L_c2 at h
  refine x_aload_n C hl.1 dL_law_238 rfl ?_
  refine y_i (x_run (As := []) C hW hS (T_X11_map l l1 σ _ h) t11 kl_11 (CW.of yv_X11_map ml_L_23) ⟨rfl, rfl, ⟨by decide, by decide⟩, by decide, by decide⟩ rfl hl.1.1 rfl (by decide) dL_law_239) hS (fun w16 s15 H locs h hW hS => ?_)
  refine x_aload_n C hl.1 dL_law_242 rfl ?_
  refine y_i (x_run (As := []) C hW hS (T_X12_map l l2 s15 _ h) t12 kl_12 (CW.of yv_X12_map ml_L_27) ⟨rfl, rfl, ⟨by decide, by decide⟩, by decide, by decide⟩ rfl hl.1.1 rfl (by simp [rv_cat, cat_i, cat_l]) dL_law_243) hS (fun w18 s17 H locs h hW hS => ?_)
  refine lv_icmp_eq hx hb dL_law_246 (tgt := 992) rfl (fun hc => ?_) (fun hc => ?_)
  · replace h := h.1 hc
    exact t_L_992 C hX hbl hbA hl hS hW hK h
  · exact (h.2 hc).elim
set_option maxRecDepth 20000 in
set_option maxHeartbeats 4000000 in
theorem t_L_c3 {p : Program} {l : Launch} {e : Env} {s : State} {m : MethodId} {below : List Frame} {meth : Method} {c : Code} {D : va_G} {tc : Nat → ClassId} {b0 b L : Nat} {xs : Nat → Int32} {G : Lay} {l1 l2 : Nat} {K : Int32 × Mem → Prop} {l3 : Int32} {σ : Mem} {H : Heap} {locs : List Loc} {ls : Array Slot} (C : Cx p s m #[Value.ref b] meth c cL_law RL 4 D tc b0) (hX : va_X b L xs s s.heap) (hbl : b < s.heap.size) (hbA : ¬ AA b0 b) (t11 : gT G l1 = 12) (t12 : gT G l2 = 13) (hl : hLb b0 b ls 4 [none, some (.inr (.inr l1)), some (.inr (.inr l2)), some (.inl l3)]) (hS : va_S (AA b0) s.heap H locs) (hW : Wd G D tc b0 σ H) (hK : ∀ (l3 : Int32) (σ : Mem) (H : Heap) (locs : List Loc) (ls : Array Slot), va_S (AA b0) s.heap H locs → Wd G D tc b0 σ H → hLb b0 b ls 4 [none, some (.inr (.inr l1)), some (.inr (.inr l2)), some (.inl l3)] → K (l3, σ) → W p l e room_1 s m #[Value.ref b] below meth c H locs 1347 147115 (lw_Z below #[Value.ref b] s) (F0 m 18 ls [])) (h : X_L_c3 G xs L l1 l2 K l3 σ) : W p l e room_1 s m #[Value.ref b] below meth c H locs 1347 147115 (lw_Z below #[Value.ref b] s) (F0 m 251 ls []) := by
  have hx := C.1
  have hb := C.2.1
  unfold X_L_c3 at h
  refine x_aload_n C hl.1 dL_law_251 rfl ?_
  refine lv_aload_n hx hb dL_law_252 rfl hl.2 ?_
  refine x_iload_n C hl.1 dL_law_253 rfl ?_
  refine lv_iconst (v := (1 : Int32)) hx hb dL_law_254 (by decide) ?_
  refine lv_iadd hx hb dL_law_255 ?_
  have v19 := h.1
  replace h := h.2
  refine va_sld hx hb hX hbl hbA hS v19 dL_law_256 ?_
  refine y_i (x_run (As := [.int (xs (l3 + (1 : Int32)).toNatClampNeg)]) C hW hS (T_X11_fault l l1 (xs (l3 + (1 : Int32)).toNatClampNeg) σ _ h) t11 kl_11 (CW.of yv_X11_fault ml_L_28) ⟨rfl, rfl, ⟨by decide, by decide⟩, by decide, by decide⟩ rfl hl.1.1 rfl (by decide) dL_law_257) hS (fun w21 s20 H locs h hW hS => ?_)
  refine x_aload_n C hl.1 dL_law_260 rfl ?_
  refine lv_aload_n hx hb dL_law_261 rfl hl.2 ?_
  refine x_iload_n C hl.1 dL_law_262 rfl ?_
  refine lv_iconst (v := (1 : Int32)) hx hb dL_law_263 (by decide) ?_
  refine lv_iadd hx hb dL_law_264 ?_
  refine va_sld hx hb hX hbl hbA hS v19 dL_law_265 ?_
  refine y_i (x_run (As := [.int (xs (l3 + (1 : Int32)).toNatClampNeg)]) C hW hS (T_X12_fault l l2 (xs (l3 + (1 : Int32)).toNatClampNeg) s20 _ h) t12 kl_12 (CW.of yv_X12_fault ml_L_31) ⟨rfl, rfl, ⟨by decide, by decide⟩, by decide, by decide⟩ rfl hl.1.1 rfl (by simp [rv_cat, cat_i, cat_l]) dL_law_266) hS (fun w23 s22 H locs h hW hS => ?_)
  refine lv_icmp_eq hx hb dL_law_269 (tgt := 992) rfl (fun hc => ?_) (fun hc => ?_)
  · replace h := h.1 hc
    exact t_L_992 C hX hbl hbA hl hS hW hK h
  · exact (h.2 hc).elim
set_option maxRecDepth 20000 in
set_option maxHeartbeats 4000000 in
theorem t_L_c4 {p : Program} {l : Launch} {e : Env} {s : State} {m : MethodId} {below : List Frame} {meth : Method} {c : Code} {D : va_G} {tc : Nat → ClassId} {b0 b L : Nat} {xs : Nat → Int32} {G : Lay} {l1 l2 : Nat} {K : Int32 × Mem → Prop} {l3 : Int32} {σ : Mem} {H : Heap} {locs : List Loc} {ls : Array Slot} (C : Cx p s m #[Value.ref b] meth c cL_law RL 4 D tc b0) (hX : va_X b L xs s s.heap) (hbl : b < s.heap.size) (hbA : ¬ AA b0 b) (t11 : gT G l1 = 12) (t12 : gT G l2 = 13) (hl : hLb b0 b ls 4 [none, some (.inr (.inr l1)), some (.inr (.inr l2)), some (.inl l3)]) (hS : va_S (AA b0) s.heap H locs) (hW : Wd G D tc b0 σ H) (hK : ∀ (l3 : Int32) (σ : Mem) (H : Heap) (locs : List Loc) (ls : Array Slot), va_S (AA b0) s.heap H locs → Wd G D tc b0 σ H → hLb b0 b ls 4 [none, some (.inr (.inr l1)), some (.inr (.inr l2)), some (.inl l3)] → K (l3, σ) → W p l e room_1 s m #[Value.ref b] below meth c H locs 1347 147115 (lw_Z below #[Value.ref b] s) (F0 m 18 ls [])) (h : X_L_c4 G xs L l1 l2 K l3 σ) : W p l e room_1 s m #[Value.ref b] below meth c H locs 1347 147115 (lw_Z below #[Value.ref b] s) (F0 m 274 ls []) := by
  have hx := C.1
  have hb := C.2.1
  unfold X_L_c4 at h
  refine x_aload_n C hl.1 dL_law_274 rfl ?_
  refine lv_aload_n hx hb dL_law_275 rfl hl.2 ?_
  refine x_iload_n C hl.1 dL_law_276 rfl ?_
  refine lv_iconst (v := (1 : Int32)) hx hb dL_law_277 (by decide) ?_
  refine lv_iadd hx hb dL_law_278 ?_
  have v24 := h.1
  replace h := h.2
  refine va_sld hx hb hX hbl hbA hS v24 dL_law_279 ?_
  refine lv_aload_n hx hb dL_law_280 rfl hl.2 ?_
  refine x_iload_n C hl.1 dL_law_281 rfl ?_
  refine lv_iconst (v := (2 : Int32)) hx hb dL_law_282 (by decide) ?_
  refine lv_iadd hx hb dL_law_283 ?_
  have v25 := h.1
  replace h := h.2
  refine va_sld hx hb hX hbl hbA hS v25 dL_law_284 ?_
  refine y_i (x_run (As := [.int (xs (l3 + (1 : Int32)).toNatClampNeg), .int (xs (l3 + (2 : Int32)).toNatClampNeg)]) C hW hS (T_X11_look l l1 (xs (l3 + (1 : Int32)).toNatClampNeg) (xs (l3 + (2 : Int32)).toNatClampNeg) σ _ h) t11 kl_11 (CW.of yv_X11_look ml_L_32) ⟨rfl, rfl, ⟨by decide, by decide⟩, by decide, by decide⟩ rfl hl.1.1 rfl (by decide) dL_law_285) hS (fun w27 s26 H locs h hW hS => ?_)
  refine x_aload_n C hl.1 dL_law_288 rfl ?_
  refine lv_aload_n hx hb dL_law_289 rfl hl.2 ?_
  refine x_iload_n C hl.1 dL_law_290 rfl ?_
  refine lv_iconst (v := (1 : Int32)) hx hb dL_law_291 (by decide) ?_
  refine lv_iadd hx hb dL_law_292 ?_
  refine va_sld hx hb hX hbl hbA hS v24 dL_law_293 ?_
  refine lv_aload_n hx hb dL_law_294 rfl hl.2 ?_
  refine x_iload_n C hl.1 dL_law_295 rfl ?_
  refine lv_iconst (v := (2 : Int32)) hx hb dL_law_296 (by decide) ?_
  refine lv_iadd hx hb dL_law_297 ?_
  refine va_sld hx hb hX hbl hbA hS v25 dL_law_298 ?_
  refine y_i (x_run (As := [.int (xs (l3 + (1 : Int32)).toNatClampNeg), .int (xs (l3 + (2 : Int32)).toNatClampNeg)]) C hW hS (T_X12_look l l2 (xs (l3 + (1 : Int32)).toNatClampNeg) (xs (l3 + (2 : Int32)).toNatClampNeg) s26 _ h) t12 kl_12 (CW.of yv_X12_look ml_L_36) ⟨rfl, rfl, ⟨by decide, by decide⟩, by decide, by decide⟩ rfl hl.1.1 rfl (by simp [rv_cat, cat_i, cat_l]) dL_law_299) hS (fun w29 s28 H locs h hW hS => ?_)
  refine lv_icmp_eq hx hb dL_law_302 (tgt := 992) rfl (fun hc => ?_) (fun hc => ?_)
  · replace h := h.1 hc
    exact t_L_992 C hX hbl hbA hl hS hW hK h
  · exact (h.2 hc).elim
set_option maxRecDepth 20000 in
set_option maxHeartbeats 4000000 in
theorem t_L_c5 {p : Program} {l : Launch} {e : Env} {s : State} {m : MethodId} {below : List Frame} {meth : Method} {c : Code} {D : va_G} {tc : Nat → ClassId} {b0 b L : Nat} {xs : Nat → Int32} {G : Lay} {l1 l2 : Nat} {K : Int32 × Mem → Prop} {l3 : Int32} {σ : Mem} {H : Heap} {locs : List Loc} {ls : Array Slot} (C : Cx p s m #[Value.ref b] meth c cL_law RL 4 D tc b0) (hX : va_X b L xs s s.heap) (hbl : b < s.heap.size) (hbA : ¬ AA b0 b) (t11 : gT G l1 = 12) (t12 : gT G l2 = 13) (hl : hLb b0 b ls 4 [none, some (.inr (.inr l1)), some (.inr (.inr l2)), some (.inl l3)]) (hS : va_S (AA b0) s.heap H locs) (hW : Wd G D tc b0 σ H) (hK : ∀ (l3 : Int32) (σ : Mem) (H : Heap) (locs : List Loc) (ls : Array Slot), va_S (AA b0) s.heap H locs → Wd G D tc b0 σ H → hLb b0 b ls 4 [none, some (.inr (.inr l1)), some (.inr (.inr l2)), some (.inl l3)] → K (l3, σ) → W p l e room_1 s m #[Value.ref b] below meth c H locs 1347 147115 (lw_Z below #[Value.ref b] s) (F0 m 18 ls [])) (h : X_L_c5 G xs L l1 l2 K l3 σ) : W p l e room_1 s m #[Value.ref b] below meth c H locs 1347 147115 (lw_Z below #[Value.ref b] s) (F0 m 307 ls []) := by
  have hx := C.1
  have hb := C.2.1
  unfold X_L_c5 at h
  refine x_aload_n C hl.1 dL_law_307 rfl ?_
  refine lv_aload_n hx hb dL_law_308 rfl hl.2 ?_
  refine x_iload_n C hl.1 dL_law_309 rfl ?_
  refine lv_iconst (v := (1 : Int32)) hx hb dL_law_310 (by decide) ?_
  refine lv_iadd hx hb dL_law_311 ?_
  have v30 := h.1
  replace h := h.2
  refine va_sld hx hb hX hbl hbA hS v30 dL_law_312 ?_
  refine lv_aload_n hx hb dL_law_313 rfl hl.2 ?_
  refine x_iload_n C hl.1 dL_law_314 rfl ?_
  refine lv_iconst (v := (2 : Int32)) hx hb dL_law_315 (by decide) ?_
  refine lv_iadd hx hb dL_law_316 ?_
  have v31 := h.1
  replace h := h.2
  refine va_sld hx hb hX hbl hbA hS v31 dL_law_317 ?_
  refine lv_aload_n hx hb dL_law_318 rfl hl.2 ?_
  refine x_iload_n C hl.1 dL_law_319 rfl ?_
  refine lv_iconst (v := (3 : Int32)) hx hb dL_law_320 (by decide) ?_
  refine lv_iadd hx hb dL_law_321 ?_
  have v32 := h.1
  replace h := h.2
  refine va_sld hx hb hX hbl hbA hS v32 dL_law_322 ?_
  refine y_i (x_run (As := [.int (xs (l3 + (1 : Int32)).toNatClampNeg), .int (xs (l3 + (2 : Int32)).toNatClampNeg), .int (xs (l3 + (3 : Int32)).toNatClampNeg)]) C hW hS (T_X11_member l l1 (xs (l3 + (1 : Int32)).toNatClampNeg) (xs (l3 + (2 : Int32)).toNatClampNeg) (xs (l3 + (3 : Int32)).toNatClampNeg) σ _ h) t11 kl_11 (CW.of yv_X11_member ml_L_37) ⟨rfl, rfl, ⟨by decide, by decide⟩, by decide, by decide⟩ rfl hl.1.1 rfl (by decide) dL_law_323) hS (fun w34 s33 H locs h hW hS => ?_)
  refine x_aload_n C hl.1 dL_law_326 rfl ?_
  refine lv_aload_n hx hb dL_law_327 rfl hl.2 ?_
  refine x_iload_n C hl.1 dL_law_328 rfl ?_
  refine lv_iconst (v := (1 : Int32)) hx hb dL_law_329 (by decide) ?_
  refine lv_iadd hx hb dL_law_330 ?_
  refine va_sld hx hb hX hbl hbA hS v30 dL_law_331 ?_
  refine lv_aload_n hx hb dL_law_332 rfl hl.2 ?_
  refine x_iload_n C hl.1 dL_law_333 rfl ?_
  refine lv_iconst (v := (2 : Int32)) hx hb dL_law_334 (by decide) ?_
  refine lv_iadd hx hb dL_law_335 ?_
  refine va_sld hx hb hX hbl hbA hS v31 dL_law_336 ?_
  refine lv_aload_n hx hb dL_law_337 rfl hl.2 ?_
  refine x_iload_n C hl.1 dL_law_338 rfl ?_
  refine lv_iconst (v := (3 : Int32)) hx hb dL_law_339 (by decide) ?_
  refine lv_iadd hx hb dL_law_340 ?_
  refine va_sld hx hb hX hbl hbA hS v32 dL_law_341 ?_
  refine y_i (x_run (As := [.int (xs (l3 + (1 : Int32)).toNatClampNeg), .int (xs (l3 + (2 : Int32)).toNatClampNeg), .int (xs (l3 + (3 : Int32)).toNatClampNeg)]) C hW hS (T_X12_member l l2 (xs (l3 + (1 : Int32)).toNatClampNeg) (xs (l3 + (2 : Int32)).toNatClampNeg) (xs (l3 + (3 : Int32)).toNatClampNeg) s33 _ h) t12 kl_12 (CW.of yv_X12_member ml_L_41) ⟨rfl, rfl, ⟨by decide, by decide⟩, by decide, by decide⟩ rfl hl.1.1 rfl (by simp [rv_cat, cat_i, cat_l]) dL_law_342) hS (fun w36 s35 H locs h hW hS => ?_)
  refine lv_icmp_eq hx hb dL_law_345 (tgt := 992) rfl (fun hc => ?_) (fun hc => ?_)
  · replace h := h.1 hc
    exact t_L_992 C hX hbl hbA hl hS hW hK h
  · exact (h.2 hc).elim
set_option maxRecDepth 20000 in
set_option maxHeartbeats 4000000 in
theorem t_L_c6 {p : Program} {l : Launch} {e : Env} {s : State} {m : MethodId} {below : List Frame} {meth : Method} {c : Code} {D : va_G} {tc : Nat → ClassId} {b0 b L : Nat} {xs : Nat → Int32} {G : Lay} {l1 l2 : Nat} {K : Int32 × Mem → Prop} {l3 : Int32} {σ : Mem} {H : Heap} {locs : List Loc} {ls : Array Slot} (C : Cx p s m #[Value.ref b] meth c cL_law RL 4 D tc b0) (hX : va_X b L xs s s.heap) (hbl : b < s.heap.size) (hbA : ¬ AA b0 b) (t11 : gT G l1 = 12) (t12 : gT G l2 = 13) (hl : hLb b0 b ls 4 [none, some (.inr (.inr l1)), some (.inr (.inr l2)), some (.inl l3)]) (hS : va_S (AA b0) s.heap H locs) (hW : Wd G D tc b0 σ H) (hK : ∀ (l3 : Int32) (σ : Mem) (H : Heap) (locs : List Loc) (ls : Array Slot), va_S (AA b0) s.heap H locs → Wd G D tc b0 σ H → hLb b0 b ls 4 [none, some (.inr (.inr l1)), some (.inr (.inr l2)), some (.inl l3)] → K (l3, σ) → W p l e room_1 s m #[Value.ref b] below meth c H locs 1347 147115 (lw_Z below #[Value.ref b] s) (F0 m 18 ls [])) (h : X_L_c6 G xs L l1 l2 K l3 σ) : W p l e room_1 s m #[Value.ref b] below meth c H locs 1347 147115 (lw_Z below #[Value.ref b] s) (F0 m 350 ls []) := by
  have hx := C.1
  have hb := C.2.1
  unfold X_L_c6 at h
  refine x_aload_n C hl.1 dL_law_350 rfl ?_
  refine y_i (x_run (As := []) C hW hS (T_X11_unit l l1 σ _ h) t11 kl_11 (CW.of yv_X11_unit ml_L_42) ⟨rfl, rfl, ⟨by decide, by decide⟩, by decide, by decide⟩ rfl hl.1.1 rfl (by decide) dL_law_351) hS (fun w38 s37 H locs h hW hS => ?_)
  refine x_aload_n C hl.1 dL_law_354 rfl ?_
  refine y_i (x_run (As := []) C hW hS (T_X12_unit l l2 s37 _ h) t12 kl_12 (CW.of yv_X12_unit ml_L_45) ⟨rfl, rfl, ⟨by decide, by decide⟩, by decide, by decide⟩ rfl hl.1.1 rfl (by simp [rv_cat, cat_i, cat_l]) dL_law_355) hS (fun w40 s39 H locs h hW hS => ?_)
  refine lv_icmp_eq hx hb dL_law_358 (tgt := 992) rfl (fun hc => ?_) (fun hc => ?_)
  · replace h := h.1 hc
    exact t_L_992 C hX hbl hbA hl hS hW hK h
  · exact (h.2 hc).elim
set_option maxRecDepth 20000 in
set_option maxHeartbeats 4000000 in
theorem t_L_c7 {p : Program} {l : Launch} {e : Env} {s : State} {m : MethodId} {below : List Frame} {meth : Method} {c : Code} {D : va_G} {tc : Nat → ClassId} {b0 b L : Nat} {xs : Nat → Int32} {G : Lay} {l1 l2 : Nat} {K : Int32 × Mem → Prop} {l3 : Int32} {σ : Mem} {H : Heap} {locs : List Loc} {ls : Array Slot} (C : Cx p s m #[Value.ref b] meth c cL_law RL 4 D tc b0) (hX : va_X b L xs s s.heap) (hbl : b < s.heap.size) (hbA : ¬ AA b0 b) (t11 : gT G l1 = 12) (t12 : gT G l2 = 13) (hl : hLb b0 b ls 4 [none, some (.inr (.inr l1)), some (.inr (.inr l2)), some (.inl l3)]) (hS : va_S (AA b0) s.heap H locs) (hW : Wd G D tc b0 σ H) (hK : ∀ (l3 : Int32) (σ : Mem) (H : Heap) (locs : List Loc) (ls : Array Slot), va_S (AA b0) s.heap H locs → Wd G D tc b0 σ H → hLb b0 b ls 4 [none, some (.inr (.inr l1)), some (.inr (.inr l2)), some (.inl l3)] → K (l3, σ) → W p l e room_1 s m #[Value.ref b] below meth c H locs 1347 147115 (lw_Z below #[Value.ref b] s) (F0 m 18 ls [])) (h : X_L_c7 G xs L l1 l2 K l3 σ) : W p l e room_1 s m #[Value.ref b] below meth c H locs 1347 147115 (lw_Z below #[Value.ref b] s) (F0 m 363 ls []) := by
  have hx := C.1
  have hb := C.2.1
  unfold X_L_c7 at h
  refine x_aload_n C hl.1 dL_law_363 rfl ?_
  refine lv_aload_n hx hb dL_law_364 rfl hl.2 ?_
  refine x_iload_n C hl.1 dL_law_365 rfl ?_
  refine lv_iconst (v := (1 : Int32)) hx hb dL_law_366 (by decide) ?_
  refine lv_iadd hx hb dL_law_367 ?_
  have v41 := h.1
  replace h := h.2
  refine va_sld hx hb hX hbl hbA hS v41 dL_law_368 ?_
  refine lv_aload_n hx hb dL_law_369 rfl hl.2 ?_
  refine x_iload_n C hl.1 dL_law_370 rfl ?_
  refine lv_iconst (v := (2 : Int32)) hx hb dL_law_371 (by decide) ?_
  refine lv_iadd hx hb dL_law_372 ?_
  have v42 := h.1
  replace h := h.2
  refine va_sld hx hb hX hbl hbA hS v42 dL_law_373 ?_
  refine y_i (x_run (As := [.int (xs (l3 + (1 : Int32)).toNatClampNeg), .int (xs (l3 + (2 : Int32)).toNatClampNeg)]) C hW hS (T_X11_close l l1 (xs (l3 + (1 : Int32)).toNatClampNeg) (xs (l3 + (2 : Int32)).toNatClampNeg) σ _ h) t11 kl_11 (CW.of yv_X11_close ml_L_46) ⟨rfl, rfl, ⟨by decide, by decide⟩, by decide, by decide⟩ rfl hl.1.1 rfl (by decide) dL_law_374) hS (fun w44 s43 H locs h hW hS => ?_)
  refine x_aload_n C hl.1 dL_law_377 rfl ?_
  refine lv_aload_n hx hb dL_law_378 rfl hl.2 ?_
  refine x_iload_n C hl.1 dL_law_379 rfl ?_
  refine lv_iconst (v := (1 : Int32)) hx hb dL_law_380 (by decide) ?_
  refine lv_iadd hx hb dL_law_381 ?_
  refine va_sld hx hb hX hbl hbA hS v41 dL_law_382 ?_
  refine lv_aload_n hx hb dL_law_383 rfl hl.2 ?_
  refine x_iload_n C hl.1 dL_law_384 rfl ?_
  refine lv_iconst (v := (2 : Int32)) hx hb dL_law_385 (by decide) ?_
  refine lv_iadd hx hb dL_law_386 ?_
  refine va_sld hx hb hX hbl hbA hS v42 dL_law_387 ?_
  refine y_i (x_run (As := [.int (xs (l3 + (1 : Int32)).toNatClampNeg), .int (xs (l3 + (2 : Int32)).toNatClampNeg)]) C hW hS (T_X12_close l l2 (xs (l3 + (1 : Int32)).toNatClampNeg) (xs (l3 + (2 : Int32)).toNatClampNeg) s43 _ h) t12 kl_12 (CW.of yv_X12_close ml_L_49) ⟨rfl, rfl, ⟨by decide, by decide⟩, by decide, by decide⟩ rfl hl.1.1 rfl (by simp [rv_cat, cat_i, cat_l]) dL_law_388) hS (fun w46 s45 H locs h hW hS => ?_)
  refine lv_icmp_eq hx hb dL_law_391 (tgt := 992) rfl (fun hc => ?_) (fun hc => ?_)
  · replace h := h.1 hc
    exact t_L_992 C hX hbl hbA hl hS hW hK h
  · exact (h.2 hc).elim
set_option maxRecDepth 20000 in
set_option maxHeartbeats 4000000 in
theorem t_L_c8 {p : Program} {l : Launch} {e : Env} {s : State} {m : MethodId} {below : List Frame} {meth : Method} {c : Code} {D : va_G} {tc : Nat → ClassId} {b0 b L : Nat} {xs : Nat → Int32} {G : Lay} {l1 l2 : Nat} {K : Int32 × Mem → Prop} {l3 : Int32} {σ : Mem} {H : Heap} {locs : List Loc} {ls : Array Slot} (C : Cx p s m #[Value.ref b] meth c cL_law RL 4 D tc b0) (hX : va_X b L xs s s.heap) (hbl : b < s.heap.size) (hbA : ¬ AA b0 b) (t11 : gT G l1 = 12) (t12 : gT G l2 = 13) (hl : hLb b0 b ls 4 [none, some (.inr (.inr l1)), some (.inr (.inr l2)), some (.inl l3)]) (hS : va_S (AA b0) s.heap H locs) (hW : Wd G D tc b0 σ H) (hK : ∀ (l3 : Int32) (σ : Mem) (H : Heap) (locs : List Loc) (ls : Array Slot), va_S (AA b0) s.heap H locs → Wd G D tc b0 σ H → hLb b0 b ls 4 [none, some (.inr (.inr l1)), some (.inr (.inr l2)), some (.inl l3)] → K (l3, σ) → W p l e room_1 s m #[Value.ref b] below meth c H locs 1347 147115 (lw_Z below #[Value.ref b] s) (F0 m 18 ls [])) (h : X_L_c8 G xs L l1 l2 K l3 σ) : W p l e room_1 s m #[Value.ref b] below meth c H locs 1347 147115 (lw_Z below #[Value.ref b] s) (F0 m 396 ls []) := by
  have hx := C.1
  have hb := C.2.1
  unfold X_L_c8 at h
  refine x_aload_n C hl.1 dL_law_396 rfl ?_
  refine lv_aload_n hx hb dL_law_397 rfl hl.2 ?_
  refine x_iload_n C hl.1 dL_law_398 rfl ?_
  refine lv_iconst (v := (1 : Int32)) hx hb dL_law_399 (by decide) ?_
  refine lv_iadd hx hb dL_law_400 ?_
  have v47 := h.1
  replace h := h.2
  refine va_sld hx hb hX hbl hbA hS v47 dL_law_401 ?_
  refine y_i (x_run (As := [.int (xs (l3 + (1 : Int32)).toNatClampNeg)]) C hW hS (T_X11_flush l l1 (xs (l3 + (1 : Int32)).toNatClampNeg) σ _ h) t11 kl_11 (CW.of yv_X11_flush ml_L_50) ⟨rfl, rfl, ⟨by decide, by decide⟩, by decide, by decide⟩ rfl hl.1.1 rfl (by decide) dL_law_402) hS (fun w49 s48 H locs h hW hS => ?_)
  refine x_aload_n C hl.1 dL_law_405 rfl ?_
  refine lv_aload_n hx hb dL_law_406 rfl hl.2 ?_
  refine x_iload_n C hl.1 dL_law_407 rfl ?_
  refine lv_iconst (v := (1 : Int32)) hx hb dL_law_408 (by decide) ?_
  refine lv_iadd hx hb dL_law_409 ?_
  refine va_sld hx hb hX hbl hbA hS v47 dL_law_410 ?_
  refine y_i (x_run (As := [.int (xs (l3 + (1 : Int32)).toNatClampNeg)]) C hW hS (T_X12_flush l l2 (xs (l3 + (1 : Int32)).toNatClampNeg) s48 _ h) t12 kl_12 (CW.of yv_X12_flush ml_L_53) ⟨rfl, rfl, ⟨by decide, by decide⟩, by decide, by decide⟩ rfl hl.1.1 rfl (by simp [rv_cat, cat_i, cat_l]) dL_law_411) hS (fun w51 s50 H locs h hW hS => ?_)
  refine lv_icmp_eq hx hb dL_law_414 (tgt := 992) rfl (fun hc => ?_) (fun hc => ?_)
  · replace h := h.1 hc
    exact t_L_992 C hX hbl hbA hl hS hW hK h
  · exact (h.2 hc).elim
set_option maxRecDepth 20000 in
set_option maxHeartbeats 4000000 in
theorem t_L_c9 {p : Program} {l : Launch} {e : Env} {s : State} {m : MethodId} {below : List Frame} {meth : Method} {c : Code} {D : va_G} {tc : Nat → ClassId} {b0 b L : Nat} {xs : Nat → Int32} {G : Lay} {l1 l2 : Nat} {K : Int32 × Mem → Prop} {l3 : Int32} {σ : Mem} {H : Heap} {locs : List Loc} {ls : Array Slot} (C : Cx p s m #[Value.ref b] meth c cL_law RL 4 D tc b0) (hX : va_X b L xs s s.heap) (hbl : b < s.heap.size) (hbA : ¬ AA b0 b) (t11 : gT G l1 = 12) (t12 : gT G l2 = 13) (hl : hLb b0 b ls 4 [none, some (.inr (.inr l1)), some (.inr (.inr l2)), some (.inl l3)]) (hS : va_S (AA b0) s.heap H locs) (hW : Wd G D tc b0 σ H) (hK : ∀ (l3 : Int32) (σ : Mem) (H : Heap) (locs : List Loc) (ls : Array Slot), va_S (AA b0) s.heap H locs → Wd G D tc b0 σ H → hLb b0 b ls 4 [none, some (.inr (.inr l1)), some (.inr (.inr l2)), some (.inl l3)] → K (l3, σ) → W p l e room_1 s m #[Value.ref b] below meth c H locs 1347 147115 (lw_Z below #[Value.ref b] s) (F0 m 18 ls [])) (h : X_L_c9 G xs L l1 l2 K l3 σ) : W p l e room_1 s m #[Value.ref b] below meth c H locs 1347 147115 (lw_Z below #[Value.ref b] s) (F0 m 419 ls []) := by
  have hx := C.1
  have hb := C.2.1
  unfold X_L_c9 at h
  refine x_aload_n C hl.1 dL_law_419 rfl ?_
  refine lv_aload_n hx hb dL_law_420 rfl hl.2 ?_
  refine x_iload_n C hl.1 dL_law_421 rfl ?_
  refine lv_iconst (v := (1 : Int32)) hx hb dL_law_422 (by decide) ?_
  refine lv_iadd hx hb dL_law_423 ?_
  have v52 := h.1
  replace h := h.2
  refine va_sld hx hb hX hbl hbA hS v52 dL_law_424 ?_
  refine y_i (x_run (As := [.int (xs (l3 + (1 : Int32)).toNatClampNeg)]) C hW hS (T_X11_outcome l l1 (xs (l3 + (1 : Int32)).toNatClampNeg) σ _ h) t11 kl_11 (CW.of yv_X11_outcome ml_L_54) ⟨rfl, rfl, ⟨by decide, by decide⟩, by decide, by decide⟩ rfl hl.1.1 rfl (by decide) dL_law_425) hS (fun w54 s53 H locs h hW hS => ?_)
  refine x_aload_n C hl.1 dL_law_428 rfl ?_
  refine lv_aload_n hx hb dL_law_429 rfl hl.2 ?_
  refine x_iload_n C hl.1 dL_law_430 rfl ?_
  refine lv_iconst (v := (1 : Int32)) hx hb dL_law_431 (by decide) ?_
  refine lv_iadd hx hb dL_law_432 ?_
  refine va_sld hx hb hX hbl hbA hS v52 dL_law_433 ?_
  refine y_i (x_run (As := [.int (xs (l3 + (1 : Int32)).toNatClampNeg)]) C hW hS (T_X12_outcome l l2 (xs (l3 + (1 : Int32)).toNatClampNeg) s53 _ h) t12 kl_12 (CW.of yv_X12_outcome ml_L_57) ⟨rfl, rfl, ⟨by decide, by decide⟩, by decide, by decide⟩ rfl hl.1.1 rfl (by simp [rv_cat, cat_i, cat_l]) dL_law_434) hS (fun w56 s55 H locs h hW hS => ?_)
  refine lv_icmp_eq hx hb dL_law_437 (tgt := 992) rfl (fun hc => ?_) (fun hc => ?_)
  · replace h := h.1 hc
    exact t_L_992 C hX hbl hbA hl hS hW hK h
  · exact (h.2 hc).elim
set_option maxRecDepth 20000 in
set_option maxHeartbeats 4000000 in
theorem t_L_c10 {p : Program} {l : Launch} {e : Env} {s : State} {m : MethodId} {below : List Frame} {meth : Method} {c : Code} {D : va_G} {tc : Nat → ClassId} {b0 b L : Nat} {xs : Nat → Int32} {G : Lay} {l1 l2 : Nat} {K : Int32 × Mem → Prop} {l3 : Int32} {σ : Mem} {H : Heap} {locs : List Loc} {ls : Array Slot} (C : Cx p s m #[Value.ref b] meth c cL_law RL 4 D tc b0) (hX : va_X b L xs s s.heap) (hbl : b < s.heap.size) (hbA : ¬ AA b0 b) (t11 : gT G l1 = 12) (t12 : gT G l2 = 13) (hl : hLb b0 b ls 4 [none, some (.inr (.inr l1)), some (.inr (.inr l2)), some (.inl l3)]) (hS : va_S (AA b0) s.heap H locs) (hW : Wd G D tc b0 σ H) (hK : ∀ (l3 : Int32) (σ : Mem) (H : Heap) (locs : List Loc) (ls : Array Slot), va_S (AA b0) s.heap H locs → Wd G D tc b0 σ H → hLb b0 b ls 4 [none, some (.inr (.inr l1)), some (.inr (.inr l2)), some (.inl l3)] → K (l3, σ) → W p l e room_1 s m #[Value.ref b] below meth c H locs 1347 147115 (lw_Z below #[Value.ref b] s) (F0 m 18 ls [])) (h : X_L_c10 G xs L l1 l2 K l3 σ) : W p l e room_1 s m #[Value.ref b] below meth c H locs 1347 147115 (lw_Z below #[Value.ref b] s) (F0 m 442 ls []) := by
  have hx := C.1
  have hb := C.2.1
  unfold X_L_c10 at h
  refine x_aload_n C hl.1 dL_law_442 rfl ?_
  refine lv_aload_n hx hb dL_law_443 rfl hl.2 ?_
  refine x_iload_n C hl.1 dL_law_444 rfl ?_
  refine lv_iconst (v := (1 : Int32)) hx hb dL_law_445 (by decide) ?_
  refine lv_iadd hx hb dL_law_446 ?_
  have v57 := h.1
  replace h := h.2
  refine va_sld hx hb hX hbl hbA hS v57 dL_law_447 ?_
  refine lv_aload_n hx hb dL_law_448 rfl hl.2 ?_
  refine x_iload_n C hl.1 dL_law_449 rfl ?_
  refine lv_iconst (v := (2 : Int32)) hx hb dL_law_450 (by decide) ?_
  refine lv_iadd hx hb dL_law_451 ?_
  have v58 := h.1
  replace h := h.2
  refine va_sld hx hb hX hbl hbA hS v58 dL_law_452 ?_
  refine y_i (x_run (As := [.int (xs (l3 + (1 : Int32)).toNatClampNeg), .int (xs (l3 + (2 : Int32)).toNatClampNeg)]) C hW hS (T_X11_write l l1 (xs (l3 + (1 : Int32)).toNatClampNeg) (xs (l3 + (2 : Int32)).toNatClampNeg) σ _ h) t11 kl_11 (CW.of yv_X11_write ml_L_58) ⟨rfl, rfl, ⟨by decide, by decide⟩, by decide, by decide⟩ rfl hl.1.1 rfl (by decide) dL_law_453) hS (fun w60 s59 H locs h hW hS => ?_)
  refine x_aload_n C hl.1 dL_law_456 rfl ?_
  refine lv_aload_n hx hb dL_law_457 rfl hl.2 ?_
  refine x_iload_n C hl.1 dL_law_458 rfl ?_
  refine lv_iconst (v := (1 : Int32)) hx hb dL_law_459 (by decide) ?_
  refine lv_iadd hx hb dL_law_460 ?_
  refine va_sld hx hb hX hbl hbA hS v57 dL_law_461 ?_
  refine lv_aload_n hx hb dL_law_462 rfl hl.2 ?_
  refine x_iload_n C hl.1 dL_law_463 rfl ?_
  refine lv_iconst (v := (2 : Int32)) hx hb dL_law_464 (by decide) ?_
  refine lv_iadd hx hb dL_law_465 ?_
  refine va_sld hx hb hX hbl hbA hS v58 dL_law_466 ?_
  refine y_i (x_run (As := [.int (xs (l3 + (1 : Int32)).toNatClampNeg), .int (xs (l3 + (2 : Int32)).toNatClampNeg)]) C hW hS (T_X12_write l l2 (xs (l3 + (1 : Int32)).toNatClampNeg) (xs (l3 + (2 : Int32)).toNatClampNeg) s59 _ h) t12 kl_12 (CW.of yv_X12_write ml_L_61) ⟨rfl, rfl, ⟨by decide, by decide⟩, by decide, by decide⟩ rfl hl.1.1 rfl (by simp [rv_cat, cat_i, cat_l]) dL_law_467) hS (fun w62 s61 H locs h hW hS => ?_)
  refine lv_icmp_eq hx hb dL_law_470 (tgt := 992) rfl (fun hc => ?_) (fun hc => ?_)
  · replace h := h.1 hc
    exact t_L_992 C hX hbl hbA hl hS hW hK h
  · exact (h.2 hc).elim
set_option maxRecDepth 20000 in
set_option maxHeartbeats 4000000 in
theorem t_L_c11 {p : Program} {l : Launch} {e : Env} {s : State} {m : MethodId} {below : List Frame} {meth : Method} {c : Code} {D : va_G} {tc : Nat → ClassId} {b0 b L : Nat} {xs : Nat → Int32} {G : Lay} {l1 l2 : Nat} {K : Int32 × Mem → Prop} {l3 : Int32} {σ : Mem} {H : Heap} {locs : List Loc} {ls : Array Slot} (C : Cx p s m #[Value.ref b] meth c cL_law RL 4 D tc b0) (hX : va_X b L xs s s.heap) (hbl : b < s.heap.size) (hbA : ¬ AA b0 b) (t11 : gT G l1 = 12) (t12 : gT G l2 = 13) (hl : hLb b0 b ls 4 [none, some (.inr (.inr l1)), some (.inr (.inr l2)), some (.inl l3)]) (hS : va_S (AA b0) s.heap H locs) (hW : Wd G D tc b0 σ H) (hK : ∀ (l3 : Int32) (σ : Mem) (H : Heap) (locs : List Loc) (ls : Array Slot), va_S (AA b0) s.heap H locs → Wd G D tc b0 σ H → hLb b0 b ls 4 [none, some (.inr (.inr l1)), some (.inr (.inr l2)), some (.inl l3)] → K (l3, σ) → W p l e room_1 s m #[Value.ref b] below meth c H locs 1347 147115 (lw_Z below #[Value.ref b] s) (F0 m 18 ls [])) (h : X_L_c11 G xs L l1 l2 K l3 σ) : W p l e room_1 s m #[Value.ref b] below meth c H locs 1347 147115 (lw_Z below #[Value.ref b] s) (F0 m 475 ls []) := by
  have hx := C.1
  have hb := C.2.1
  unfold X_L_c11 at h
  refine x_aload_n C hl.1 dL_law_475 rfl ?_
  refine lv_aload_n hx hb dL_law_476 rfl hl.2 ?_
  refine x_iload_n C hl.1 dL_law_477 rfl ?_
  refine lv_iconst (v := (1 : Int32)) hx hb dL_law_478 (by decide) ?_
  refine lv_iadd hx hb dL_law_479 ?_
  have v63 := h.1
  replace h := h.2
  refine va_sld hx hb hX hbl hbA hS v63 dL_law_480 ?_
  refine lv_aload_n hx hb dL_law_481 rfl hl.2 ?_
  refine x_iload_n C hl.1 dL_law_482 rfl ?_
  refine lv_iconst (v := (2 : Int32)) hx hb dL_law_483 (by decide) ?_
  refine lv_iadd hx hb dL_law_484 ?_
  have v64 := h.1
  replace h := h.2
  refine va_sld hx hb hX hbl hbA hS v64 dL_law_485 ?_
  refine y_i (x_run (As := [.int (xs (l3 + (1 : Int32)).toNatClampNeg), .int (xs (l3 + (2 : Int32)).toNatClampNeg)]) C hW hS (T_X11_make l l1 (xs (l3 + (1 : Int32)).toNatClampNeg) (xs (l3 + (2 : Int32)).toNatClampNeg) σ _ h) t11 kl_11 (CW.of yv_X11_make ml_L_62) ⟨rfl, rfl, ⟨by decide, by decide⟩, by decide, by decide⟩ rfl hl.1.1 rfl (by decide) dL_law_486) hS (fun w66 s65 H locs h hW hS => ?_)
  refine x_aload_n C hl.1 dL_law_489 rfl ?_
  refine lv_aload_n hx hb dL_law_490 rfl hl.2 ?_
  refine x_iload_n C hl.1 dL_law_491 rfl ?_
  refine lv_iconst (v := (1 : Int32)) hx hb dL_law_492 (by decide) ?_
  refine lv_iadd hx hb dL_law_493 ?_
  refine va_sld hx hb hX hbl hbA hS v63 dL_law_494 ?_
  refine lv_aload_n hx hb dL_law_495 rfl hl.2 ?_
  refine x_iload_n C hl.1 dL_law_496 rfl ?_
  refine lv_iconst (v := (2 : Int32)) hx hb dL_law_497 (by decide) ?_
  refine lv_iadd hx hb dL_law_498 ?_
  refine va_sld hx hb hX hbl hbA hS v64 dL_law_499 ?_
  refine y_i (x_run (As := [.int (xs (l3 + (1 : Int32)).toNatClampNeg), .int (xs (l3 + (2 : Int32)).toNatClampNeg)]) C hW hS (T_X12_make l l2 (xs (l3 + (1 : Int32)).toNatClampNeg) (xs (l3 + (2 : Int32)).toNatClampNeg) s65 _ h) t12 kl_12 (CW.of yv_X12_make ml_L_65) ⟨rfl, rfl, ⟨by decide, by decide⟩, by decide, by decide⟩ rfl hl.1.1 rfl (by simp [rv_cat, cat_i, cat_l]) dL_law_500) hS (fun w68 s67 H locs h hW hS => ?_)
  refine lv_icmp_eq hx hb dL_law_503 (tgt := 992) rfl (fun hc => ?_) (fun hc => ?_)
  · replace h := h.1 hc
    exact t_L_992 C hX hbl hbA hl hS hW hK h
  · exact (h.2 hc).elim
set_option maxRecDepth 20000 in
set_option maxHeartbeats 4000000 in
theorem t_L_c12 {p : Program} {l : Launch} {e : Env} {s : State} {m : MethodId} {below : List Frame} {meth : Method} {c : Code} {D : va_G} {tc : Nat → ClassId} {b0 b L : Nat} {xs : Nat → Int32} {G : Lay} {l1 l2 : Nat} {K : Int32 × Mem → Prop} {l3 : Int32} {σ : Mem} {H : Heap} {locs : List Loc} {ls : Array Slot} (C : Cx p s m #[Value.ref b] meth c cL_law RL 4 D tc b0) (hX : va_X b L xs s s.heap) (hbl : b < s.heap.size) (hbA : ¬ AA b0 b) (t11 : gT G l1 = 12) (t12 : gT G l2 = 13) (hl : hLb b0 b ls 4 [none, some (.inr (.inr l1)), some (.inr (.inr l2)), some (.inl l3)]) (hS : va_S (AA b0) s.heap H locs) (hW : Wd G D tc b0 σ H) (hK : ∀ (l3 : Int32) (σ : Mem) (H : Heap) (locs : List Loc) (ls : Array Slot), va_S (AA b0) s.heap H locs → Wd G D tc b0 σ H → hLb b0 b ls 4 [none, some (.inr (.inr l1)), some (.inr (.inr l2)), some (.inl l3)] → K (l3, σ) → W p l e room_1 s m #[Value.ref b] below meth c H locs 1347 147115 (lw_Z below #[Value.ref b] s) (F0 m 18 ls [])) (h : X_L_c12 G xs L l1 l2 K l3 σ) : W p l e room_1 s m #[Value.ref b] below meth c H locs 1347 147115 (lw_Z below #[Value.ref b] s) (F0 m 508 ls []) := by
  have hx := C.1
  have hb := C.2.1
  unfold X_L_c12 at h
  refine x_aload_n C hl.1 dL_law_508 rfl ?_
  refine lv_aload_n hx hb dL_law_509 rfl hl.2 ?_
  refine x_iload_n C hl.1 dL_law_510 rfl ?_
  refine lv_iconst (v := (1 : Int32)) hx hb dL_law_511 (by decide) ?_
  refine lv_iadd hx hb dL_law_512 ?_
  have v69 := h.1
  replace h := h.2
  refine va_sld hx hb hX hbl hbA hS v69 dL_law_513 ?_
  refine lv_aload_n hx hb dL_law_514 rfl hl.2 ?_
  refine x_iload_n C hl.1 dL_law_515 rfl ?_
  refine lv_iconst (v := (2 : Int32)) hx hb dL_law_516 (by decide) ?_
  refine lv_iadd hx hb dL_law_517 ?_
  have v70 := h.1
  replace h := h.2
  refine va_sld hx hb hX hbl hbA hS v70 dL_law_518 ?_
  refine lv_aload_n hx hb dL_law_519 rfl hl.2 ?_
  refine x_iload_n C hl.1 dL_law_520 rfl ?_
  refine lv_iconst (v := (3 : Int32)) hx hb dL_law_521 (by decide) ?_
  refine lv_iadd hx hb dL_law_522 ?_
  have v71 := h.1
  replace h := h.2
  refine va_sld hx hb hX hbl hbA hS v71 dL_law_523 ?_
  refine y_i (x_run (As := [.int (xs (l3 + (1 : Int32)).toNatClampNeg), .int (xs (l3 + (2 : Int32)).toNatClampNeg), .int (xs (l3 + (3 : Int32)).toNatClampNeg)]) C hW hS (T_X11_find l l1 (xs (l3 + (1 : Int32)).toNatClampNeg) (xs (l3 + (2 : Int32)).toNatClampNeg) (xs (l3 + (3 : Int32)).toNatClampNeg) σ _ h) t11 kl_11 (CW.of yv_X11_find ml_L_66) ⟨rfl, rfl, ⟨by decide, by decide⟩, by decide, by decide⟩ rfl hl.1.1 rfl (by decide) dL_law_524) hS (fun w73 s72 H locs h hW hS => ?_)
  refine x_aload_n C hl.1 dL_law_527 rfl ?_
  refine lv_aload_n hx hb dL_law_528 rfl hl.2 ?_
  refine x_iload_n C hl.1 dL_law_529 rfl ?_
  refine lv_iconst (v := (1 : Int32)) hx hb dL_law_530 (by decide) ?_
  refine lv_iadd hx hb dL_law_531 ?_
  refine va_sld hx hb hX hbl hbA hS v69 dL_law_532 ?_
  refine lv_aload_n hx hb dL_law_533 rfl hl.2 ?_
  refine x_iload_n C hl.1 dL_law_534 rfl ?_
  refine lv_iconst (v := (2 : Int32)) hx hb dL_law_535 (by decide) ?_
  refine lv_iadd hx hb dL_law_536 ?_
  refine va_sld hx hb hX hbl hbA hS v70 dL_law_537 ?_
  refine lv_aload_n hx hb dL_law_538 rfl hl.2 ?_
  refine x_iload_n C hl.1 dL_law_539 rfl ?_
  refine lv_iconst (v := (3 : Int32)) hx hb dL_law_540 (by decide) ?_
  refine lv_iadd hx hb dL_law_541 ?_
  refine va_sld hx hb hX hbl hbA hS v71 dL_law_542 ?_
  refine y_i (x_run (As := [.int (xs (l3 + (1 : Int32)).toNatClampNeg), .int (xs (l3 + (2 : Int32)).toNatClampNeg), .int (xs (l3 + (3 : Int32)).toNatClampNeg)]) C hW hS (T_X12_find l l2 (xs (l3 + (1 : Int32)).toNatClampNeg) (xs (l3 + (2 : Int32)).toNatClampNeg) (xs (l3 + (3 : Int32)).toNatClampNeg) s72 _ h) t12 kl_12 (CW.of yv_X12_find ml_L_69) ⟨rfl, rfl, ⟨by decide, by decide⟩, by decide, by decide⟩ rfl hl.1.1 rfl (by simp [rv_cat, cat_i, cat_l]) dL_law_543) hS (fun w75 s74 H locs h hW hS => ?_)
  refine lv_icmp_eq hx hb dL_law_546 (tgt := 992) rfl (fun hc => ?_) (fun hc => ?_)
  · replace h := h.1 hc
    exact t_L_992 C hX hbl hbA hl hS hW hK h
  · exact (h.2 hc).elim
set_option maxRecDepth 20000 in
set_option maxHeartbeats 4000000 in
theorem t_L_c13 {p : Program} {l : Launch} {e : Env} {s : State} {m : MethodId} {below : List Frame} {meth : Method} {c : Code} {D : va_G} {tc : Nat → ClassId} {b0 b L : Nat} {xs : Nat → Int32} {G : Lay} {l1 l2 : Nat} {K : Int32 × Mem → Prop} {l3 : Int32} {σ : Mem} {H : Heap} {locs : List Loc} {ls : Array Slot} (C : Cx p s m #[Value.ref b] meth c cL_law RL 4 D tc b0) (hX : va_X b L xs s s.heap) (hbl : b < s.heap.size) (hbA : ¬ AA b0 b) (t11 : gT G l1 = 12) (t12 : gT G l2 = 13) (hl : hLb b0 b ls 4 [none, some (.inr (.inr l1)), some (.inr (.inr l2)), some (.inl l3)]) (hS : va_S (AA b0) s.heap H locs) (hW : Wd G D tc b0 σ H) (hK : ∀ (l3 : Int32) (σ : Mem) (H : Heap) (locs : List Loc) (ls : Array Slot), va_S (AA b0) s.heap H locs → Wd G D tc b0 σ H → hLb b0 b ls 4 [none, some (.inr (.inr l1)), some (.inr (.inr l2)), some (.inl l3)] → K (l3, σ) → W p l e room_1 s m #[Value.ref b] below meth c H locs 1347 147115 (lw_Z below #[Value.ref b] s) (F0 m 18 ls [])) (h : X_L_c13 G xs L l1 l2 K l3 σ) : W p l e room_1 s m #[Value.ref b] below meth c H locs 1347 147115 (lw_Z below #[Value.ref b] s) (F0 m 551 ls []) := by
  have hx := C.1
  have hb := C.2.1
  unfold X_L_c13 at h
  refine x_aload_n C hl.1 dL_law_551 rfl ?_
  refine lv_aload_n hx hb dL_law_552 rfl hl.2 ?_
  refine x_iload_n C hl.1 dL_law_553 rfl ?_
  refine lv_iconst (v := (1 : Int32)) hx hb dL_law_554 (by decide) ?_
  refine lv_iadd hx hb dL_law_555 ?_
  have v76 := h.1
  replace h := h.2
  refine va_sld hx hb hX hbl hbA hS v76 dL_law_556 ?_
  refine lv_aload_n hx hb dL_law_557 rfl hl.2 ?_
  refine x_iload_n C hl.1 dL_law_558 rfl ?_
  refine lv_iconst (v := (2 : Int32)) hx hb dL_law_559 (by decide) ?_
  refine lv_iadd hx hb dL_law_560 ?_
  have v77 := h.1
  replace h := h.2
  refine va_sld hx hb hX hbl hbA hS v77 dL_law_561 ?_
  refine y_i (x_run (As := [.int (xs (l3 + (1 : Int32)).toNatClampNeg), .int (xs (l3 + (2 : Int32)).toNatClampNeg)]) C hW hS (T_X11_object l l1 (xs (l3 + (1 : Int32)).toNatClampNeg) (xs (l3 + (2 : Int32)).toNatClampNeg) σ _ h) t11 kl_11 (CW.of yv_X11_object ml_L_70) ⟨rfl, rfl, ⟨by decide, by decide⟩, by decide, by decide⟩ rfl hl.1.1 rfl (by decide) dL_law_562) hS (fun w79 s78 H locs h hW hS => ?_)
  refine x_aload_n C hl.1 dL_law_565 rfl ?_
  refine lv_aload_n hx hb dL_law_566 rfl hl.2 ?_
  refine x_iload_n C hl.1 dL_law_567 rfl ?_
  refine lv_iconst (v := (1 : Int32)) hx hb dL_law_568 (by decide) ?_
  refine lv_iadd hx hb dL_law_569 ?_
  refine va_sld hx hb hX hbl hbA hS v76 dL_law_570 ?_
  refine lv_aload_n hx hb dL_law_571 rfl hl.2 ?_
  refine x_iload_n C hl.1 dL_law_572 rfl ?_
  refine lv_iconst (v := (2 : Int32)) hx hb dL_law_573 (by decide) ?_
  refine lv_iadd hx hb dL_law_574 ?_
  refine va_sld hx hb hX hbl hbA hS v77 dL_law_575 ?_
  refine y_i (x_run (As := [.int (xs (l3 + (1 : Int32)).toNatClampNeg), .int (xs (l3 + (2 : Int32)).toNatClampNeg)]) C hW hS (T_X12_object l l2 (xs (l3 + (1 : Int32)).toNatClampNeg) (xs (l3 + (2 : Int32)).toNatClampNeg) s78 _ h) t12 kl_12 (CW.of yv_X12_object ml_L_73) ⟨rfl, rfl, ⟨by decide, by decide⟩, by decide, by decide⟩ rfl hl.1.1 rfl (by simp [rv_cat, cat_i, cat_l]) dL_law_576) hS (fun w81 s80 H locs h hW hS => ?_)
  refine lv_icmp_eq hx hb dL_law_579 (tgt := 992) rfl (fun hc => ?_) (fun hc => ?_)
  · replace h := h.1 hc
    exact t_L_992 C hX hbl hbA hl hS hW hK h
  · exact (h.2 hc).elim
set_option maxRecDepth 20000 in
set_option maxHeartbeats 4000000 in
theorem t_L_c14 {p : Program} {l : Launch} {e : Env} {s : State} {m : MethodId} {below : List Frame} {meth : Method} {c : Code} {D : va_G} {tc : Nat → ClassId} {b0 b L : Nat} {xs : Nat → Int32} {G : Lay} {l1 l2 : Nat} {K : Int32 × Mem → Prop} {l3 : Int32} {σ : Mem} {H : Heap} {locs : List Loc} {ls : Array Slot} (C : Cx p s m #[Value.ref b] meth c cL_law RL 4 D tc b0) (hX : va_X b L xs s s.heap) (hbl : b < s.heap.size) (hbA : ¬ AA b0 b) (t11 : gT G l1 = 12) (t12 : gT G l2 = 13) (hl : hLb b0 b ls 4 [none, some (.inr (.inr l1)), some (.inr (.inr l2)), some (.inl l3)]) (hS : va_S (AA b0) s.heap H locs) (hW : Wd G D tc b0 σ H) (hK : ∀ (l3 : Int32) (σ : Mem) (H : Heap) (locs : List Loc) (ls : Array Slot), va_S (AA b0) s.heap H locs → Wd G D tc b0 σ H → hLb b0 b ls 4 [none, some (.inr (.inr l1)), some (.inr (.inr l2)), some (.inl l3)] → K (l3, σ) → W p l e room_1 s m #[Value.ref b] below meth c H locs 1347 147115 (lw_Z below #[Value.ref b] s) (F0 m 18 ls [])) (h : X_L_c14 G xs L l1 l2 K l3 σ) : W p l e room_1 s m #[Value.ref b] below meth c H locs 1347 147115 (lw_Z below #[Value.ref b] s) (F0 m 584 ls []) := by
  have hx := C.1
  have hb := C.2.1
  unfold X_L_c14 at h
  refine x_aload_n C hl.1 dL_law_584 rfl ?_
  refine lv_aload_n hx hb dL_law_585 rfl hl.2 ?_
  refine x_iload_n C hl.1 dL_law_586 rfl ?_
  refine lv_iconst (v := (1 : Int32)) hx hb dL_law_587 (by decide) ?_
  refine lv_iadd hx hb dL_law_588 ?_
  have v82 := h.1
  replace h := h.2
  refine va_sld hx hb hX hbl hbA hS v82 dL_law_589 ?_
  refine lv_aload_n hx hb dL_law_590 rfl hl.2 ?_
  refine x_iload_n C hl.1 dL_law_591 rfl ?_
  refine lv_iconst (v := (2 : Int32)) hx hb dL_law_592 (by decide) ?_
  refine lv_iadd hx hb dL_law_593 ?_
  have v83 := h.1
  replace h := h.2
  refine va_sld hx hb hX hbl hbA hS v83 dL_law_594 ?_
  refine y_l (x_run (As := [.int (xs (l3 + (1 : Int32)).toNatClampNeg), .int (xs (l3 + (2 : Int32)).toNatClampNeg)]) C hW hS (T_X11_value l l1 (xs (l3 + (1 : Int32)).toNatClampNeg) (xs (l3 + (2 : Int32)).toNatClampNeg) σ _ h) t11 kl_11 (CW.of yv_X11_value ml_L_74) ⟨rfl, rfl, ⟨by decide, by decide⟩, by decide, by decide⟩ rfl hl.1.1 rfl (by decide) dL_law_595) hS (fun w85 s84 H locs h hW hS => ?_)
  refine x_aload_n C hl.1 dL_law_598 rfl ?_
  refine lv_aload_n hx hb dL_law_599 rfl hl.2 ?_
  refine x_iload_n C hl.1 dL_law_600 rfl ?_
  refine lv_iconst (v := (1 : Int32)) hx hb dL_law_601 (by decide) ?_
  refine lv_iadd hx hb dL_law_602 ?_
  refine va_sld hx hb hX hbl hbA hS v82 dL_law_603 ?_
  refine lv_aload_n hx hb dL_law_604 rfl hl.2 ?_
  refine x_iload_n C hl.1 dL_law_605 rfl ?_
  refine lv_iconst (v := (2 : Int32)) hx hb dL_law_606 (by decide) ?_
  refine lv_iadd hx hb dL_law_607 ?_
  refine va_sld hx hb hX hbl hbA hS v83 dL_law_608 ?_
  refine y_l (x_run (As := [.int (xs (l3 + (1 : Int32)).toNatClampNeg), .int (xs (l3 + (2 : Int32)).toNatClampNeg)]) C hW hS (T_X12_value l l2 (xs (l3 + (1 : Int32)).toNatClampNeg) (xs (l3 + (2 : Int32)).toNatClampNeg) s84 _ h) t12 kl_12 (CW.of yv_X12_value ml_L_78) ⟨rfl, rfl, ⟨by decide, by decide⟩, by decide, by decide⟩ rfl hl.1.1 rfl (by simp [rv_cat, cat_i, cat_l]) dL_law_609) hS (fun w87 s86 H locs h hW hS => ?_)
  refine W.lcmp hx hb dL_law_612 ?_
  refine lv_if_eq hx hb dL_law_613 (tgt := 992) rfl (fun hc => ?_) (fun hc => ?_)
  · replace h := h.1 hc
    exact t_L_992 C hX hbl hbA hl hS hW hK h
  · exact (h.2 hc).elim
set_option maxRecDepth 20000 in
set_option maxHeartbeats 4000000 in
theorem t_L_c15 {p : Program} {l : Launch} {e : Env} {s : State} {m : MethodId} {below : List Frame} {meth : Method} {c : Code} {D : va_G} {tc : Nat → ClassId} {b0 b L : Nat} {xs : Nat → Int32} {G : Lay} {l1 l2 : Nat} {K : Int32 × Mem → Prop} {l3 : Int32} {σ : Mem} {H : Heap} {locs : List Loc} {ls : Array Slot} (C : Cx p s m #[Value.ref b] meth c cL_law RL 4 D tc b0) (hX : va_X b L xs s s.heap) (hbl : b < s.heap.size) (hbA : ¬ AA b0 b) (t11 : gT G l1 = 12) (t12 : gT G l2 = 13) (hl : hLb b0 b ls 4 [none, some (.inr (.inr l1)), some (.inr (.inr l2)), some (.inl l3)]) (hS : va_S (AA b0) s.heap H locs) (hW : Wd G D tc b0 σ H) (hK : ∀ (l3 : Int32) (σ : Mem) (H : Heap) (locs : List Loc) (ls : Array Slot), va_S (AA b0) s.heap H locs → Wd G D tc b0 σ H → hLb b0 b ls 4 [none, some (.inr (.inr l1)), some (.inr (.inr l2)), some (.inl l3)] → K (l3, σ) → W p l e room_1 s m #[Value.ref b] below meth c H locs 1347 147115 (lw_Z below #[Value.ref b] s) (F0 m 18 ls [])) (h : X_L_c15 G xs L l1 l2 K l3 σ) : W p l e room_1 s m #[Value.ref b] below meth c H locs 1347 147115 (lw_Z below #[Value.ref b] s) (F0 m 618 ls []) := by
  have hx := C.1
  have hb := C.2.1
  unfold X_L_c15 at h
  refine x_aload_n C hl.1 dL_law_618 rfl ?_
  refine lv_aload_n hx hb dL_law_619 rfl hl.2 ?_
  refine x_iload_n C hl.1 dL_law_620 rfl ?_
  refine lv_iconst (v := (1 : Int32)) hx hb dL_law_621 (by decide) ?_
  refine lv_iadd hx hb dL_law_622 ?_
  have v88 := h.1
  replace h := h.2
  refine va_sld hx hb hX hbl hbA hS v88 dL_law_623 ?_
  refine lv_aload_n hx hb dL_law_624 rfl hl.2 ?_
  refine x_iload_n C hl.1 dL_law_625 rfl ?_
  refine lv_iconst (v := (2 : Int32)) hx hb dL_law_626 (by decide) ?_
  refine lv_iadd hx hb dL_law_627 ?_
  have v89 := h.1
  replace h := h.2
  refine va_sld hx hb hX hbl hbA hS v89 dL_law_628 ?_
  refine lv_aload_n hx hb dL_law_629 rfl hl.2 ?_
  refine x_iload_n C hl.1 dL_law_630 rfl ?_
  refine lv_iconst (v := (3 : Int32)) hx hb dL_law_631 (by decide) ?_
  refine lv_iadd hx hb dL_law_632 ?_
  have v90 := h.1
  replace h := h.2
  refine va_sld hx hb hX hbl hbA hS v90 dL_law_633 ?_
  refine y_i (x_run (As := [.int (xs (l3 + (1 : Int32)).toNatClampNeg), .int (xs (l3 + (2 : Int32)).toNatClampNeg), .int (xs (l3 + (3 : Int32)).toNatClampNeg)]) C hW hS (T_X11_put l l1 (xs (l3 + (1 : Int32)).toNatClampNeg) (xs (l3 + (2 : Int32)).toNatClampNeg) (xs (l3 + (3 : Int32)).toNatClampNeg) σ _ h) t11 kl_11 (CW.of yv_X11_put ml_L_79) ⟨rfl, rfl, ⟨by decide, by decide⟩, by decide, by decide⟩ rfl hl.1.1 rfl (by decide) dL_law_634) hS (fun w92 s91 H locs h hW hS => ?_)
  refine x_aload_n C hl.1 dL_law_637 rfl ?_
  refine lv_aload_n hx hb dL_law_638 rfl hl.2 ?_
  refine x_iload_n C hl.1 dL_law_639 rfl ?_
  refine lv_iconst (v := (1 : Int32)) hx hb dL_law_640 (by decide) ?_
  refine lv_iadd hx hb dL_law_641 ?_
  refine va_sld hx hb hX hbl hbA hS v88 dL_law_642 ?_
  refine lv_aload_n hx hb dL_law_643 rfl hl.2 ?_
  refine x_iload_n C hl.1 dL_law_644 rfl ?_
  refine lv_iconst (v := (2 : Int32)) hx hb dL_law_645 (by decide) ?_
  refine lv_iadd hx hb dL_law_646 ?_
  refine va_sld hx hb hX hbl hbA hS v89 dL_law_647 ?_
  refine lv_aload_n hx hb dL_law_648 rfl hl.2 ?_
  refine x_iload_n C hl.1 dL_law_649 rfl ?_
  refine lv_iconst (v := (3 : Int32)) hx hb dL_law_650 (by decide) ?_
  refine lv_iadd hx hb dL_law_651 ?_
  refine va_sld hx hb hX hbl hbA hS v90 dL_law_652 ?_
  refine y_i (x_run (As := [.int (xs (l3 + (1 : Int32)).toNatClampNeg), .int (xs (l3 + (2 : Int32)).toNatClampNeg), .int (xs (l3 + (3 : Int32)).toNatClampNeg)]) C hW hS (T_X12_put l l2 (xs (l3 + (1 : Int32)).toNatClampNeg) (xs (l3 + (2 : Int32)).toNatClampNeg) (xs (l3 + (3 : Int32)).toNatClampNeg) s91 _ h) t12 kl_12 (CW.of yv_X12_put ml_L_83) ⟨rfl, rfl, ⟨by decide, by decide⟩, by decide, by decide⟩ rfl hl.1.1 rfl (by simp [rv_cat, cat_i, cat_l]) dL_law_653) hS (fun w94 s93 H locs h hW hS => ?_)
  refine lv_icmp_eq hx hb dL_law_656 (tgt := 992) rfl (fun hc => ?_) (fun hc => ?_)
  · replace h := h.1 hc
    exact t_L_992 C hX hbl hbA hl hS hW hK h
  · exact (h.2 hc).elim
set_option maxRecDepth 20000 in
set_option maxHeartbeats 4000000 in
theorem t_L_c16 {p : Program} {l : Launch} {e : Env} {s : State} {m : MethodId} {below : List Frame} {meth : Method} {c : Code} {D : va_G} {tc : Nat → ClassId} {b0 b L : Nat} {xs : Nat → Int32} {G : Lay} {l1 l2 : Nat} {K : Int32 × Mem → Prop} {l3 : Int32} {σ : Mem} {H : Heap} {locs : List Loc} {ls : Array Slot} (C : Cx p s m #[Value.ref b] meth c cL_law RL 4 D tc b0) (hX : va_X b L xs s s.heap) (hbl : b < s.heap.size) (hbA : ¬ AA b0 b) (t11 : gT G l1 = 12) (t12 : gT G l2 = 13) (hl : hLb b0 b ls 4 [none, some (.inr (.inr l1)), some (.inr (.inr l2)), some (.inl l3)]) (hS : va_S (AA b0) s.heap H locs) (hW : Wd G D tc b0 σ H) (hK : ∀ (l3 : Int32) (σ : Mem) (H : Heap) (locs : List Loc) (ls : Array Slot), va_S (AA b0) s.heap H locs → Wd G D tc b0 σ H → hLb b0 b ls 4 [none, some (.inr (.inr l1)), some (.inr (.inr l2)), some (.inl l3)] → K (l3, σ) → W p l e room_1 s m #[Value.ref b] below meth c H locs 1347 147115 (lw_Z below #[Value.ref b] s) (F0 m 18 ls [])) (h : X_L_c16 G xs L l1 l2 K l3 σ) : W p l e room_1 s m #[Value.ref b] below meth c H locs 1347 147115 (lw_Z below #[Value.ref b] s) (F0 m 661 ls []) := by
  have hx := C.1
  have hb := C.2.1
  unfold X_L_c16 at h
  refine x_aload_n C hl.1 dL_law_661 rfl ?_
  refine lv_aload_n hx hb dL_law_662 rfl hl.2 ?_
  refine x_iload_n C hl.1 dL_law_663 rfl ?_
  refine lv_iconst (v := (1 : Int32)) hx hb dL_law_664 (by decide) ?_
  refine lv_iadd hx hb dL_law_665 ?_
  have v95 := h.1
  replace h := h.2
  refine va_sld hx hb hX hbl hbA hS v95 dL_law_666 ?_
  refine lv_aload_n hx hb dL_law_667 rfl hl.2 ?_
  refine x_iload_n C hl.1 dL_law_668 rfl ?_
  refine lv_iconst (v := (2 : Int32)) hx hb dL_law_669 (by decide) ?_
  refine lv_iadd hx hb dL_law_670 ?_
  have v96 := h.1
  replace h := h.2
  refine va_sld hx hb hX hbl hbA hS v96 dL_law_671 ?_
  refine lv_aload_n hx hb dL_law_672 rfl hl.2 ?_
  refine x_iload_n C hl.1 dL_law_673 rfl ?_
  refine lv_iconst (v := (3 : Int32)) hx hb dL_law_674 (by decide) ?_
  refine lv_iadd hx hb dL_law_675 ?_
  have v97 := h.1
  replace h := h.2
  refine va_sld hx hb hX hbl hbA hS v97 dL_law_676 ?_
  refine y_i (x_run (As := [.int (xs (l3 + (1 : Int32)).toNatClampNeg), .int (xs (l3 + (2 : Int32)).toNatClampNeg), .int (xs (l3 + (3 : Int32)).toNatClampNeg)]) C hW hS (T_X11_link l l1 (xs (l3 + (1 : Int32)).toNatClampNeg) (xs (l3 + (2 : Int32)).toNatClampNeg) (xs (l3 + (3 : Int32)).toNatClampNeg) σ _ h) t11 kl_11 (CW.of yv_X11_link ml_L_84) ⟨rfl, rfl, ⟨by decide, by decide⟩, by decide, by decide⟩ rfl hl.1.1 rfl (by decide) dL_law_677) hS (fun w99 s98 H locs h hW hS => ?_)
  refine x_aload_n C hl.1 dL_law_680 rfl ?_
  refine lv_aload_n hx hb dL_law_681 rfl hl.2 ?_
  refine x_iload_n C hl.1 dL_law_682 rfl ?_
  refine lv_iconst (v := (1 : Int32)) hx hb dL_law_683 (by decide) ?_
  refine lv_iadd hx hb dL_law_684 ?_
  refine va_sld hx hb hX hbl hbA hS v95 dL_law_685 ?_
  refine lv_aload_n hx hb dL_law_686 rfl hl.2 ?_
  refine x_iload_n C hl.1 dL_law_687 rfl ?_
  refine lv_iconst (v := (2 : Int32)) hx hb dL_law_688 (by decide) ?_
  refine lv_iadd hx hb dL_law_689 ?_
  refine va_sld hx hb hX hbl hbA hS v96 dL_law_690 ?_
  refine lv_aload_n hx hb dL_law_691 rfl hl.2 ?_
  refine x_iload_n C hl.1 dL_law_692 rfl ?_
  refine lv_iconst (v := (3 : Int32)) hx hb dL_law_693 (by decide) ?_
  refine lv_iadd hx hb dL_law_694 ?_
  refine va_sld hx hb hX hbl hbA hS v97 dL_law_695 ?_
  refine y_i (x_run (As := [.int (xs (l3 + (1 : Int32)).toNatClampNeg), .int (xs (l3 + (2 : Int32)).toNatClampNeg), .int (xs (l3 + (3 : Int32)).toNatClampNeg)]) C hW hS (T_X12_link l l2 (xs (l3 + (1 : Int32)).toNatClampNeg) (xs (l3 + (2 : Int32)).toNatClampNeg) (xs (l3 + (3 : Int32)).toNatClampNeg) s98 _ h) t12 kl_12 (CW.of yv_X12_link ml_L_87) ⟨rfl, rfl, ⟨by decide, by decide⟩, by decide, by decide⟩ rfl hl.1.1 rfl (by simp [rv_cat, cat_i, cat_l]) dL_law_696) hS (fun w101 s100 H locs h hW hS => ?_)
  refine lv_icmp_eq hx hb dL_law_699 (tgt := 992) rfl (fun hc => ?_) (fun hc => ?_)
  · replace h := h.1 hc
    exact t_L_992 C hX hbl hbA hl hS hW hK h
  · exact (h.2 hc).elim
set_option maxRecDepth 20000 in
set_option maxHeartbeats 4000000 in
theorem t_L_c17 {p : Program} {l : Launch} {e : Env} {s : State} {m : MethodId} {below : List Frame} {meth : Method} {c : Code} {D : va_G} {tc : Nat → ClassId} {b0 b L : Nat} {xs : Nat → Int32} {G : Lay} {l1 l2 : Nat} {K : Int32 × Mem → Prop} {l3 : Int32} {σ : Mem} {H : Heap} {locs : List Loc} {ls : Array Slot} (C : Cx p s m #[Value.ref b] meth c cL_law RL 4 D tc b0) (hX : va_X b L xs s s.heap) (hbl : b < s.heap.size) (hbA : ¬ AA b0 b) (t11 : gT G l1 = 12) (t12 : gT G l2 = 13) (hl : hLb b0 b ls 4 [none, some (.inr (.inr l1)), some (.inr (.inr l2)), some (.inl l3)]) (hS : va_S (AA b0) s.heap H locs) (hW : Wd G D tc b0 σ H) (hK : ∀ (l3 : Int32) (σ : Mem) (H : Heap) (locs : List Loc) (ls : Array Slot), va_S (AA b0) s.heap H locs → Wd G D tc b0 σ H → hLb b0 b ls 4 [none, some (.inr (.inr l1)), some (.inr (.inr l2)), some (.inl l3)] → K (l3, σ) → W p l e room_1 s m #[Value.ref b] below meth c H locs 1347 147115 (lw_Z below #[Value.ref b] s) (F0 m 18 ls [])) (h : X_L_c17 G xs L l1 l2 K l3 σ) : W p l e room_1 s m #[Value.ref b] below meth c H locs 1347 147115 (lw_Z below #[Value.ref b] s) (F0 m 704 ls []) := by
  have hx := C.1
  have hb := C.2.1
  unfold X_L_c17 at h
  refine x_aload_n C hl.1 dL_law_704 rfl ?_
  refine lv_aload_n hx hb dL_law_705 rfl hl.2 ?_
  refine x_iload_n C hl.1 dL_law_706 rfl ?_
  refine lv_iconst (v := (1 : Int32)) hx hb dL_law_707 (by decide) ?_
  refine lv_iadd hx hb dL_law_708 ?_
  have v102 := h.1
  replace h := h.2
  refine va_sld hx hb hX hbl hbA hS v102 dL_law_709 ?_
  refine lv_aload_n hx hb dL_law_710 rfl hl.2 ?_
  refine x_iload_n C hl.1 dL_law_711 rfl ?_
  refine lv_iconst (v := (2 : Int32)) hx hb dL_law_712 (by decide) ?_
  refine lv_iadd hx hb dL_law_713 ?_
  have v103 := h.1
  replace h := h.2
  refine va_sld hx hb hX hbl hbA hS v103 dL_law_714 ?_
  refine y_i (x_run (As := [.int (xs (l3 + (1 : Int32)).toNatClampNeg), .int (xs (l3 + (2 : Int32)).toNatClampNeg)]) C hW hS (T_X11_size l l1 (xs (l3 + (1 : Int32)).toNatClampNeg) (xs (l3 + (2 : Int32)).toNatClampNeg) σ _ h) t11 kl_11 (CW.of yv_X11_size ml_L_88) ⟨rfl, rfl, ⟨by decide, by decide⟩, by decide, by decide⟩ rfl hl.1.1 rfl (by decide) dL_law_715) hS (fun w105 s104 H locs h hW hS => ?_)
  refine x_aload_n C hl.1 dL_law_718 rfl ?_
  refine lv_aload_n hx hb dL_law_719 rfl hl.2 ?_
  refine x_iload_n C hl.1 dL_law_720 rfl ?_
  refine lv_iconst (v := (1 : Int32)) hx hb dL_law_721 (by decide) ?_
  refine lv_iadd hx hb dL_law_722 ?_
  refine va_sld hx hb hX hbl hbA hS v102 dL_law_723 ?_
  refine lv_aload_n hx hb dL_law_724 rfl hl.2 ?_
  refine x_iload_n C hl.1 dL_law_725 rfl ?_
  refine lv_iconst (v := (2 : Int32)) hx hb dL_law_726 (by decide) ?_
  refine lv_iadd hx hb dL_law_727 ?_
  refine va_sld hx hb hX hbl hbA hS v103 dL_law_728 ?_
  refine y_i (x_run (As := [.int (xs (l3 + (1 : Int32)).toNatClampNeg), .int (xs (l3 + (2 : Int32)).toNatClampNeg)]) C hW hS (T_X12_size l l2 (xs (l3 + (1 : Int32)).toNatClampNeg) (xs (l3 + (2 : Int32)).toNatClampNeg) s104 _ h) t12 kl_12 (CW.of yv_X12_size ml_L_91) ⟨rfl, rfl, ⟨by decide, by decide⟩, by decide, by decide⟩ rfl hl.1.1 rfl (by simp [rv_cat, cat_i, cat_l]) dL_law_729) hS (fun w107 s106 H locs h hW hS => ?_)
  refine lv_icmp_eq hx hb dL_law_732 (tgt := 992) rfl (fun hc => ?_) (fun hc => ?_)
  · replace h := h.1 hc
    exact t_L_992 C hX hbl hbA hl hS hW hK h
  · exact (h.2 hc).elim
set_option maxRecDepth 20000 in
set_option maxHeartbeats 4000000 in
theorem t_L_c18 {p : Program} {l : Launch} {e : Env} {s : State} {m : MethodId} {below : List Frame} {meth : Method} {c : Code} {D : va_G} {tc : Nat → ClassId} {b0 b L : Nat} {xs : Nat → Int32} {G : Lay} {l1 l2 : Nat} {K : Int32 × Mem → Prop} {l3 : Int32} {σ : Mem} {H : Heap} {locs : List Loc} {ls : Array Slot} (C : Cx p s m #[Value.ref b] meth c cL_law RL 4 D tc b0) (hX : va_X b L xs s s.heap) (hbl : b < s.heap.size) (hbA : ¬ AA b0 b) (t11 : gT G l1 = 12) (t12 : gT G l2 = 13) (hl : hLb b0 b ls 4 [none, some (.inr (.inr l1)), some (.inr (.inr l2)), some (.inl l3)]) (hS : va_S (AA b0) s.heap H locs) (hW : Wd G D tc b0 σ H) (hK : ∀ (l3 : Int32) (σ : Mem) (H : Heap) (locs : List Loc) (ls : Array Slot), va_S (AA b0) s.heap H locs → Wd G D tc b0 σ H → hLb b0 b ls 4 [none, some (.inr (.inr l1)), some (.inr (.inr l2)), some (.inl l3)] → K (l3, σ) → W p l e room_1 s m #[Value.ref b] below meth c H locs 1347 147115 (lw_Z below #[Value.ref b] s) (F0 m 18 ls [])) (h : X_L_c18 G xs L l1 l2 K l3 σ) : W p l e room_1 s m #[Value.ref b] below meth c H locs 1347 147115 (lw_Z below #[Value.ref b] s) (F0 m 737 ls []) := by
  have hx := C.1
  have hb := C.2.1
  unfold X_L_c18 at h
  refine x_aload_n C hl.1 dL_law_737 rfl ?_
  refine lv_aload_n hx hb dL_law_738 rfl hl.2 ?_
  refine x_iload_n C hl.1 dL_law_739 rfl ?_
  refine lv_iconst (v := (1 : Int32)) hx hb dL_law_740 (by decide) ?_
  refine lv_iadd hx hb dL_law_741 ?_
  have v108 := h.1
  replace h := h.2
  refine va_sld hx hb hX hbl hbA hS v108 dL_law_742 ?_
  refine lv_aload_n hx hb dL_law_743 rfl hl.2 ?_
  refine x_iload_n C hl.1 dL_law_744 rfl ?_
  refine lv_iconst (v := (2 : Int32)) hx hb dL_law_745 (by decide) ?_
  refine lv_iadd hx hb dL_law_746 ?_
  have v109 := h.1
  replace h := h.2
  refine va_sld hx hb hX hbl hbA hS v109 dL_law_747 ?_
  refine lv_aload_n hx hb dL_law_748 rfl hl.2 ?_
  refine x_iload_n C hl.1 dL_law_749 rfl ?_
  refine lv_iconst (v := (3 : Int32)) hx hb dL_law_750 (by decide) ?_
  refine lv_iadd hx hb dL_law_751 ?_
  have v110 := h.1
  replace h := h.2
  refine va_sld hx hb hX hbl hbA hS v110 dL_law_752 ?_
  refine y_i (x_run (As := [.int (xs (l3 + (1 : Int32)).toNatClampNeg), .int (xs (l3 + (2 : Int32)).toNatClampNeg), .int (xs (l3 + (3 : Int32)).toNatClampNeg)]) C hW hS (T_X11_item l l1 (xs (l3 + (1 : Int32)).toNatClampNeg) (xs (l3 + (2 : Int32)).toNatClampNeg) (xs (l3 + (3 : Int32)).toNatClampNeg) σ _ h) t11 kl_11 (CW.of yv_X11_item ml_L_92) ⟨rfl, rfl, ⟨by decide, by decide⟩, by decide, by decide⟩ rfl hl.1.1 rfl (by decide) dL_law_753) hS (fun w112 s111 H locs h hW hS => ?_)
  refine x_aload_n C hl.1 dL_law_756 rfl ?_
  refine lv_aload_n hx hb dL_law_757 rfl hl.2 ?_
  refine x_iload_n C hl.1 dL_law_758 rfl ?_
  refine lv_iconst (v := (1 : Int32)) hx hb dL_law_759 (by decide) ?_
  refine lv_iadd hx hb dL_law_760 ?_
  refine va_sld hx hb hX hbl hbA hS v108 dL_law_761 ?_
  refine lv_aload_n hx hb dL_law_762 rfl hl.2 ?_
  refine x_iload_n C hl.1 dL_law_763 rfl ?_
  refine lv_iconst (v := (2 : Int32)) hx hb dL_law_764 (by decide) ?_
  refine lv_iadd hx hb dL_law_765 ?_
  refine va_sld hx hb hX hbl hbA hS v109 dL_law_766 ?_
  refine lv_aload_n hx hb dL_law_767 rfl hl.2 ?_
  refine x_iload_n C hl.1 dL_law_768 rfl ?_
  refine lv_iconst (v := (3 : Int32)) hx hb dL_law_769 (by decide) ?_
  refine lv_iadd hx hb dL_law_770 ?_
  refine va_sld hx hb hX hbl hbA hS v110 dL_law_771 ?_
  refine y_i (x_run (As := [.int (xs (l3 + (1 : Int32)).toNatClampNeg), .int (xs (l3 + (2 : Int32)).toNatClampNeg), .int (xs (l3 + (3 : Int32)).toNatClampNeg)]) C hW hS (T_X12_item l l2 (xs (l3 + (1 : Int32)).toNatClampNeg) (xs (l3 + (2 : Int32)).toNatClampNeg) (xs (l3 + (3 : Int32)).toNatClampNeg) s111 _ h) t12 kl_12 (CW.of yv_X12_item ml_L_95) ⟨rfl, rfl, ⟨by decide, by decide⟩, by decide, by decide⟩ rfl hl.1.1 rfl (by simp [rv_cat, cat_i, cat_l]) dL_law_772) hS (fun w114 s113 H locs h hW hS => ?_)
  refine lv_icmp_eq hx hb dL_law_775 (tgt := 992) rfl (fun hc => ?_) (fun hc => ?_)
  · replace h := h.1 hc
    exact t_L_992 C hX hbl hbA hl hS hW hK h
  · exact (h.2 hc).elim
set_option maxRecDepth 20000 in
set_option maxHeartbeats 4000000 in
theorem t_L_c19 {p : Program} {l : Launch} {e : Env} {s : State} {m : MethodId} {below : List Frame} {meth : Method} {c : Code} {D : va_G} {tc : Nat → ClassId} {b0 b L : Nat} {xs : Nat → Int32} {G : Lay} {l1 l2 : Nat} {K : Int32 × Mem → Prop} {l3 : Int32} {σ : Mem} {H : Heap} {locs : List Loc} {ls : Array Slot} (C : Cx p s m #[Value.ref b] meth c cL_law RL 4 D tc b0) (hX : va_X b L xs s s.heap) (hbl : b < s.heap.size) (hbA : ¬ AA b0 b) (t11 : gT G l1 = 12) (t12 : gT G l2 = 13) (hl : hLb b0 b ls 4 [none, some (.inr (.inr l1)), some (.inr (.inr l2)), some (.inl l3)]) (hS : va_S (AA b0) s.heap H locs) (hW : Wd G D tc b0 σ H) (hK : ∀ (l3 : Int32) (σ : Mem) (H : Heap) (locs : List Loc) (ls : Array Slot), va_S (AA b0) s.heap H locs → Wd G D tc b0 σ H → hLb b0 b ls 4 [none, some (.inr (.inr l1)), some (.inr (.inr l2)), some (.inl l3)] → K (l3, σ) → W p l e room_1 s m #[Value.ref b] below meth c H locs 1347 147115 (lw_Z below #[Value.ref b] s) (F0 m 18 ls [])) (h : X_L_c19 G xs L l1 l2 K l3 σ) : W p l e room_1 s m #[Value.ref b] below meth c H locs 1347 147115 (lw_Z below #[Value.ref b] s) (F0 m 780 ls []) := by
  have hx := C.1
  have hb := C.2.1
  unfold X_L_c19 at h
  refine x_aload_n C hl.1 dL_law_780 rfl ?_
  refine lv_aload_n hx hb dL_law_781 rfl hl.2 ?_
  refine x_iload_n C hl.1 dL_law_782 rfl ?_
  refine lv_iconst (v := (1 : Int32)) hx hb dL_law_783 (by decide) ?_
  refine lv_iadd hx hb dL_law_784 ?_
  have v115 := h.1
  replace h := h.2
  refine va_sld hx hb hX hbl hbA hS v115 dL_law_785 ?_
  refine y_i (x_run (As := [.int (xs (l3 + (1 : Int32)).toNatClampNeg)]) C hW hS (T_X11_drop l l1 (xs (l3 + (1 : Int32)).toNatClampNeg) σ _ h) t11 kl_11 (CW.of yv_X11_drop ml_L_96) ⟨rfl, rfl, ⟨by decide, by decide⟩, by decide, by decide⟩ rfl hl.1.1 rfl (by decide) dL_law_786) hS (fun w117 s116 H locs h hW hS => ?_)
  refine x_aload_n C hl.1 dL_law_789 rfl ?_
  refine lv_aload_n hx hb dL_law_790 rfl hl.2 ?_
  refine x_iload_n C hl.1 dL_law_791 rfl ?_
  refine lv_iconst (v := (1 : Int32)) hx hb dL_law_792 (by decide) ?_
  refine lv_iadd hx hb dL_law_793 ?_
  refine va_sld hx hb hX hbl hbA hS v115 dL_law_794 ?_
  refine y_i (x_run (As := [.int (xs (l3 + (1 : Int32)).toNatClampNeg)]) C hW hS (T_X12_drop l l2 (xs (l3 + (1 : Int32)).toNatClampNeg) s116 _ h) t12 kl_12 (CW.of yv_X12_drop ml_L_99) ⟨rfl, rfl, ⟨by decide, by decide⟩, by decide, by decide⟩ rfl hl.1.1 rfl (by simp [rv_cat, cat_i, cat_l]) dL_law_795) hS (fun w119 s118 H locs h hW hS => ?_)
  refine lv_icmp_eq hx hb dL_law_798 (tgt := 992) rfl (fun hc => ?_) (fun hc => ?_)
  · replace h := h.1 hc
    exact t_L_992 C hX hbl hbA hl hS hW hK h
  · exact (h.2 hc).elim
set_option maxRecDepth 20000 in
set_option maxHeartbeats 4000000 in
theorem t_L_c20 {p : Program} {l : Launch} {e : Env} {s : State} {m : MethodId} {below : List Frame} {meth : Method} {c : Code} {D : va_G} {tc : Nat → ClassId} {b0 b L : Nat} {xs : Nat → Int32} {G : Lay} {l1 l2 : Nat} {K : Int32 × Mem → Prop} {l3 : Int32} {σ : Mem} {H : Heap} {locs : List Loc} {ls : Array Slot} (C : Cx p s m #[Value.ref b] meth c cL_law RL 4 D tc b0) (hX : va_X b L xs s s.heap) (hbl : b < s.heap.size) (hbA : ¬ AA b0 b) (t11 : gT G l1 = 12) (t12 : gT G l2 = 13) (hl : hLb b0 b ls 4 [none, some (.inr (.inr l1)), some (.inr (.inr l2)), some (.inl l3)]) (hS : va_S (AA b0) s.heap H locs) (hW : Wd G D tc b0 σ H) (hK : ∀ (l3 : Int32) (σ : Mem) (H : Heap) (locs : List Loc) (ls : Array Slot), va_S (AA b0) s.heap H locs → Wd G D tc b0 σ H → hLb b0 b ls 4 [none, some (.inr (.inr l1)), some (.inr (.inr l2)), some (.inl l3)] → K (l3, σ) → W p l e room_1 s m #[Value.ref b] below meth c H locs 1347 147115 (lw_Z below #[Value.ref b] s) (F0 m 18 ls [])) (h : X_L_c20 G xs L l1 l2 K l3 σ) : W p l e room_1 s m #[Value.ref b] below meth c H locs 1347 147115 (lw_Z below #[Value.ref b] s) (F0 m 803 ls []) := by
  have hx := C.1
  have hb := C.2.1
  unfold X_L_c20 at h
  refine x_aload_n C hl.1 dL_law_803 rfl ?_
  refine lv_aload_n hx hb dL_law_804 rfl hl.2 ?_
  refine x_iload_n C hl.1 dL_law_805 rfl ?_
  refine lv_iconst (v := (1 : Int32)) hx hb dL_law_806 (by decide) ?_
  refine lv_iadd hx hb dL_law_807 ?_
  have v120 := h.1
  replace h := h.2
  refine va_sld hx hb hX hbl hbA hS v120 dL_law_808 ?_
  refine y_i (x_run (As := [.int (xs (l3 + (1 : Int32)).toNatClampNeg)]) C hW hS (T_X11_loads l l1 (xs (l3 + (1 : Int32)).toNatClampNeg) σ _ h) t11 kl_11 (CW.of yv_X11_loads ml_L_100) ⟨rfl, rfl, ⟨by decide, by decide⟩, by decide, by decide⟩ rfl hl.1.1 rfl (by decide) dL_law_809) hS (fun w122 s121 H locs h hW hS => ?_)
  refine x_aload_n C hl.1 dL_law_812 rfl ?_
  refine lv_aload_n hx hb dL_law_813 rfl hl.2 ?_
  refine x_iload_n C hl.1 dL_law_814 rfl ?_
  refine lv_iconst (v := (1 : Int32)) hx hb dL_law_815 (by decide) ?_
  refine lv_iadd hx hb dL_law_816 ?_
  refine va_sld hx hb hX hbl hbA hS v120 dL_law_817 ?_
  refine y_i (x_run (As := [.int (xs (l3 + (1 : Int32)).toNatClampNeg)]) C hW hS (T_X12_loads l l2 (xs (l3 + (1 : Int32)).toNatClampNeg) s121 _ h) t12 kl_12 (CW.of yv_X12_loads ml_L_103) ⟨rfl, rfl, ⟨by decide, by decide⟩, by decide, by decide⟩ rfl hl.1.1 rfl (by simp [rv_cat, cat_i, cat_l]) dL_law_818) hS (fun w124 s123 H locs h hW hS => ?_)
  refine lv_icmp_eq hx hb dL_law_821 (tgt := 992) rfl (fun hc => ?_) (fun hc => ?_)
  · replace h := h.1 hc
    exact t_L_992 C hX hbl hbA hl hS hW hK h
  · exact (h.2 hc).elim
set_option maxRecDepth 20000 in
set_option maxHeartbeats 4000000 in
theorem t_L_c21 {p : Program} {l : Launch} {e : Env} {s : State} {m : MethodId} {below : List Frame} {meth : Method} {c : Code} {D : va_G} {tc : Nat → ClassId} {b0 b L : Nat} {xs : Nat → Int32} {G : Lay} {l1 l2 : Nat} {K : Int32 × Mem → Prop} {l3 : Int32} {σ : Mem} {H : Heap} {locs : List Loc} {ls : Array Slot} (C : Cx p s m #[Value.ref b] meth c cL_law RL 4 D tc b0) (hX : va_X b L xs s s.heap) (hbl : b < s.heap.size) (hbA : ¬ AA b0 b) (t11 : gT G l1 = 12) (t12 : gT G l2 = 13) (hl : hLb b0 b ls 4 [none, some (.inr (.inr l1)), some (.inr (.inr l2)), some (.inl l3)]) (hS : va_S (AA b0) s.heap H locs) (hW : Wd G D tc b0 σ H) (hK : ∀ (l3 : Int32) (σ : Mem) (H : Heap) (locs : List Loc) (ls : Array Slot), va_S (AA b0) s.heap H locs → Wd G D tc b0 σ H → hLb b0 b ls 4 [none, some (.inr (.inr l1)), some (.inr (.inr l2)), some (.inl l3)] → K (l3, σ) → W p l e room_1 s m #[Value.ref b] below meth c H locs 1347 147115 (lw_Z below #[Value.ref b] s) (F0 m 18 ls [])) (h : X_L_c21 G xs L l1 l2 K l3 σ) : W p l e room_1 s m #[Value.ref b] below meth c H locs 1347 147115 (lw_Z below #[Value.ref b] s) (F0 m 826 ls []) := by
  have hx := C.1
  have hb := C.2.1
  unfold X_L_c21 at h
  refine x_aload_n C hl.1 dL_law_826 rfl ?_
  refine lv_aload_n hx hb dL_law_827 rfl hl.2 ?_
  refine x_iload_n C hl.1 dL_law_828 rfl ?_
  refine lv_iconst (v := (1 : Int32)) hx hb dL_law_829 (by decide) ?_
  refine lv_iadd hx hb dL_law_830 ?_
  have v125 := h.1
  replace h := h.2
  refine va_sld hx hb hX hbl hbA hS v125 dL_law_831 ?_
  refine lv_aload_n hx hb dL_law_832 rfl hl.2 ?_
  refine x_iload_n C hl.1 dL_law_833 rfl ?_
  refine lv_iconst (v := (2 : Int32)) hx hb dL_law_834 (by decide) ?_
  refine lv_iadd hx hb dL_law_835 ?_
  have v126 := h.1
  replace h := h.2
  refine va_sld hx hb hX hbl hbA hS v126 dL_law_836 ?_
  refine lv_aload_n hx hb dL_law_837 rfl hl.2 ?_
  refine x_iload_n C hl.1 dL_law_838 rfl ?_
  refine lv_iconst (v := (3 : Int32)) hx hb dL_law_839 (by decide) ?_
  refine lv_iadd hx hb dL_law_840 ?_
  have v127 := h.1
  replace h := h.2
  refine va_sld hx hb hX hbl hbA hS v127 dL_law_841 ?_
  refine lv_aload_n hx hb dL_law_842 rfl hl.2 ?_
  refine x_iload_n C hl.1 dL_law_843 rfl ?_
  refine lv_iconst (v := (4 : Int32)) hx hb dL_law_844 (by decide) ?_
  refine lv_iadd hx hb dL_law_845 ?_
  have v128 := h.1
  replace h := h.2
  refine va_sld hx hb hX hbl hbA hS v128 dL_law_846 ?_
  refine y_i (x_run (As := [.int (xs (l3 + (1 : Int32)).toNatClampNeg), .int (xs (l3 + (2 : Int32)).toNatClampNeg), .int (xs (l3 + (3 : Int32)).toNatClampNeg), .int (xs (l3 + (4 : Int32)).toNatClampNeg)]) C hW hS (T_X11_other l l1 (xs (l3 + (1 : Int32)).toNatClampNeg) (xs (l3 + (2 : Int32)).toNatClampNeg) (xs (l3 + (3 : Int32)).toNatClampNeg) (xs (l3 + (4 : Int32)).toNatClampNeg) σ _ h) t11 kl_11 (CW.of yv_X11_other ml_L_104) ⟨rfl, rfl, ⟨by decide, by decide⟩, by decide, by decide⟩ rfl hl.1.1 rfl (by decide) dL_law_847) hS (fun w130 s129 H locs h hW hS => ?_)
  refine x_aload_n C hl.1 dL_law_850 rfl ?_
  refine lv_aload_n hx hb dL_law_851 rfl hl.2 ?_
  refine x_iload_n C hl.1 dL_law_852 rfl ?_
  refine lv_iconst (v := (1 : Int32)) hx hb dL_law_853 (by decide) ?_
  refine lv_iadd hx hb dL_law_854 ?_
  refine va_sld hx hb hX hbl hbA hS v125 dL_law_855 ?_
  refine lv_aload_n hx hb dL_law_856 rfl hl.2 ?_
  refine x_iload_n C hl.1 dL_law_857 rfl ?_
  refine lv_iconst (v := (2 : Int32)) hx hb dL_law_858 (by decide) ?_
  refine lv_iadd hx hb dL_law_859 ?_
  refine va_sld hx hb hX hbl hbA hS v126 dL_law_860 ?_
  refine lv_aload_n hx hb dL_law_861 rfl hl.2 ?_
  refine x_iload_n C hl.1 dL_law_862 rfl ?_
  refine lv_iconst (v := (3 : Int32)) hx hb dL_law_863 (by decide) ?_
  refine lv_iadd hx hb dL_law_864 ?_
  refine va_sld hx hb hX hbl hbA hS v127 dL_law_865 ?_
  refine lv_aload_n hx hb dL_law_866 rfl hl.2 ?_
  refine x_iload_n C hl.1 dL_law_867 rfl ?_
  refine lv_iconst (v := (4 : Int32)) hx hb dL_law_868 (by decide) ?_
  refine lv_iadd hx hb dL_law_869 ?_
  refine va_sld hx hb hX hbl hbA hS v128 dL_law_870 ?_
  refine y_i (x_run (As := [.int (xs (l3 + (1 : Int32)).toNatClampNeg), .int (xs (l3 + (2 : Int32)).toNatClampNeg), .int (xs (l3 + (3 : Int32)).toNatClampNeg), .int (xs (l3 + (4 : Int32)).toNatClampNeg)]) C hW hS (T_X12_other l l2 (xs (l3 + (1 : Int32)).toNatClampNeg) (xs (l3 + (2 : Int32)).toNatClampNeg) (xs (l3 + (3 : Int32)).toNatClampNeg) (xs (l3 + (4 : Int32)).toNatClampNeg) s129 _ h) t12 kl_12 (CW.of yv_X12_other ml_L_108) ⟨rfl, rfl, ⟨by decide, by decide⟩, by decide, by decide⟩ rfl hl.1.1 rfl (by simp [rv_cat, cat_i, cat_l]) dL_law_871) hS (fun w132 s131 H locs h hW hS => ?_)
  refine lv_icmp_eq hx hb dL_law_874 (tgt := 992) rfl (fun hc => ?_) (fun hc => ?_)
  · replace h := h.1 hc
    exact t_L_992 C hX hbl hbA hl hS hW hK h
  · exact (h.2 hc).elim
set_option maxRecDepth 20000 in
set_option maxHeartbeats 4000000 in
theorem t_L_c22 {p : Program} {l : Launch} {e : Env} {s : State} {m : MethodId} {below : List Frame} {meth : Method} {c : Code} {D : va_G} {tc : Nat → ClassId} {b0 b L : Nat} {xs : Nat → Int32} {G : Lay} {l1 l2 : Nat} {K : Int32 × Mem → Prop} {l3 : Int32} {σ : Mem} {H : Heap} {locs : List Loc} {ls : Array Slot} (C : Cx p s m #[Value.ref b] meth c cL_law RL 4 D tc b0) (hX : va_X b L xs s s.heap) (hbl : b < s.heap.size) (hbA : ¬ AA b0 b) (t11 : gT G l1 = 12) (t12 : gT G l2 = 13) (hl : hLb b0 b ls 4 [none, some (.inr (.inr l1)), some (.inr (.inr l2)), some (.inl l3)]) (hS : va_S (AA b0) s.heap H locs) (hW : Wd G D tc b0 σ H) (hK : ∀ (l3 : Int32) (σ : Mem) (H : Heap) (locs : List Loc) (ls : Array Slot), va_S (AA b0) s.heap H locs → Wd G D tc b0 σ H → hLb b0 b ls 4 [none, some (.inr (.inr l1)), some (.inr (.inr l2)), some (.inl l3)] → K (l3, σ) → W p l e room_1 s m #[Value.ref b] below meth c H locs 1347 147115 (lw_Z below #[Value.ref b] s) (F0 m 18 ls [])) (h : X_L_c22 G xs L l1 l2 K l3 σ) : W p l e room_1 s m #[Value.ref b] below meth c H locs 1347 147115 (lw_Z below #[Value.ref b] s) (F0 m 879 ls []) := by
  have hx := C.1
  have hb := C.2.1
  unfold X_L_c22 at h
  refine x_aload_n C hl.1 dL_law_879 rfl ?_
  refine lv_aload_n hx hb dL_law_880 rfl hl.2 ?_
  refine x_iload_n C hl.1 dL_law_881 rfl ?_
  refine lv_iconst (v := (1 : Int32)) hx hb dL_law_882 (by decide) ?_
  refine lv_iadd hx hb dL_law_883 ?_
  have v133 := h.1
  replace h := h.2
  refine va_sld hx hb hX hbl hbA hS v133 dL_law_884 ?_
  refine lv_aload_n hx hb dL_law_885 rfl hl.2 ?_
  refine x_iload_n C hl.1 dL_law_886 rfl ?_
  refine lv_iconst (v := (2 : Int32)) hx hb dL_law_887 (by decide) ?_
  refine lv_iadd hx hb dL_law_888 ?_
  have v134 := h.1
  replace h := h.2
  refine va_sld hx hb hX hbl hbA hS v134 dL_law_889 ?_
  refine lv_aload_n hx hb dL_law_890 rfl hl.2 ?_
  refine x_iload_n C hl.1 dL_law_891 rfl ?_
  refine lv_iconst (v := (3 : Int32)) hx hb dL_law_892 (by decide) ?_
  refine lv_iadd hx hb dL_law_893 ?_
  have v135 := h.1
  replace h := h.2
  refine va_sld hx hb hX hbl hbA hS v135 dL_law_894 ?_
  refine y_l (x_run (As := [.int (xs (l3 + (1 : Int32)).toNatClampNeg), .int (xs (l3 + (2 : Int32)).toNatClampNeg), .int (xs (l3 + (3 : Int32)).toNatClampNeg)]) C hW hS (T_X11_cell l l1 (xs (l3 + (1 : Int32)).toNatClampNeg) (xs (l3 + (2 : Int32)).toNatClampNeg) (xs (l3 + (3 : Int32)).toNatClampNeg) σ _ h) t11 kl_11 (CW.of yv_X11_cell ml_L_109) ⟨rfl, rfl, ⟨by decide, by decide⟩, by decide, by decide⟩ rfl hl.1.1 rfl (by decide) dL_law_895) hS (fun w137 s136 H locs h hW hS => ?_)
  refine x_aload_n C hl.1 dL_law_898 rfl ?_
  refine lv_aload_n hx hb dL_law_899 rfl hl.2 ?_
  refine x_iload_n C hl.1 dL_law_900 rfl ?_
  refine lv_iconst (v := (1 : Int32)) hx hb dL_law_901 (by decide) ?_
  refine lv_iadd hx hb dL_law_902 ?_
  refine va_sld hx hb hX hbl hbA hS v133 dL_law_903 ?_
  refine lv_aload_n hx hb dL_law_904 rfl hl.2 ?_
  refine x_iload_n C hl.1 dL_law_905 rfl ?_
  refine lv_iconst (v := (2 : Int32)) hx hb dL_law_906 (by decide) ?_
  refine lv_iadd hx hb dL_law_907 ?_
  refine va_sld hx hb hX hbl hbA hS v134 dL_law_908 ?_
  refine lv_aload_n hx hb dL_law_909 rfl hl.2 ?_
  refine x_iload_n C hl.1 dL_law_910 rfl ?_
  refine lv_iconst (v := (3 : Int32)) hx hb dL_law_911 (by decide) ?_
  refine lv_iadd hx hb dL_law_912 ?_
  refine va_sld hx hb hX hbl hbA hS v135 dL_law_913 ?_
  refine y_l (x_run (As := [.int (xs (l3 + (1 : Int32)).toNatClampNeg), .int (xs (l3 + (2 : Int32)).toNatClampNeg), .int (xs (l3 + (3 : Int32)).toNatClampNeg)]) C hW hS (T_X12_cell l l2 (xs (l3 + (1 : Int32)).toNatClampNeg) (xs (l3 + (2 : Int32)).toNatClampNeg) (xs (l3 + (3 : Int32)).toNatClampNeg) s136 _ h) t12 kl_12 (CW.of yv_X12_cell ml_L_113) ⟨rfl, rfl, ⟨by decide, by decide⟩, by decide, by decide⟩ rfl hl.1.1 rfl (by simp [rv_cat, cat_i, cat_l]) dL_law_914) hS (fun w139 s138 H locs h hW hS => ?_)
  refine W.lcmp hx hb dL_law_917 ?_
  refine lv_if_eq hx hb dL_law_918 (tgt := 992) rfl (fun hc => ?_) (fun hc => ?_)
  · replace h := h.1 hc
    exact t_L_992 C hX hbl hbA hl hS hW hK h
  · exact (h.2 hc).elim
set_option maxRecDepth 20000 in
set_option maxHeartbeats 4000000 in
theorem t_L_c23 {p : Program} {l : Launch} {e : Env} {s : State} {m : MethodId} {below : List Frame} {meth : Method} {c : Code} {D : va_G} {tc : Nat → ClassId} {b0 b L : Nat} {xs : Nat → Int32} {G : Lay} {l1 l2 : Nat} {K : Int32 × Mem → Prop} {l3 : Int32} {σ : Mem} {H : Heap} {locs : List Loc} {ls : Array Slot} (C : Cx p s m #[Value.ref b] meth c cL_law RL 4 D tc b0) (hX : va_X b L xs s s.heap) (hbl : b < s.heap.size) (hbA : ¬ AA b0 b) (t11 : gT G l1 = 12) (t12 : gT G l2 = 13) (hl : hLb b0 b ls 4 [none, some (.inr (.inr l1)), some (.inr (.inr l2)), some (.inl l3)]) (hS : va_S (AA b0) s.heap H locs) (hW : Wd G D tc b0 σ H) (hK : ∀ (l3 : Int32) (σ : Mem) (H : Heap) (locs : List Loc) (ls : Array Slot), va_S (AA b0) s.heap H locs → Wd G D tc b0 σ H → hLb b0 b ls 4 [none, some (.inr (.inr l1)), some (.inr (.inr l2)), some (.inl l3)] → K (l3, σ) → W p l e room_1 s m #[Value.ref b] below meth c H locs 1347 147115 (lw_Z below #[Value.ref b] s) (F0 m 18 ls [])) (h : X_L_c23 G xs L l1 l2 K l3 σ) : W p l e room_1 s m #[Value.ref b] below meth c H locs 1347 147115 (lw_Z below #[Value.ref b] s) (F0 m 923 ls []) := by
  have hx := C.1
  have hb := C.2.1
  unfold X_L_c23 at h
  refine x_aload_n C hl.1 dL_law_923 rfl ?_
  refine lv_aload_n hx hb dL_law_924 rfl hl.2 ?_
  refine x_iload_n C hl.1 dL_law_925 rfl ?_
  refine lv_iconst (v := (1 : Int32)) hx hb dL_law_926 (by decide) ?_
  refine lv_iadd hx hb dL_law_927 ?_
  have v140 := h.1
  replace h := h.2
  refine va_sld hx hb hX hbl hbA hS v140 dL_law_928 ?_
  refine y_i (x_run (As := [.int (xs (l3 + (1 : Int32)).toNatClampNeg)]) C hW hS (T_X11_ask l l1 (xs (l3 + (1 : Int32)).toNatClampNeg) σ _ h) t11 kl_11 (CW.of yv_X11_ask ml_L_114) ⟨rfl, rfl, ⟨by decide, by decide⟩, by decide, by decide⟩ rfl hl.1.1 rfl (by decide) dL_law_929) hS (fun w142 s141 H locs h hW hS => ?_)
  refine x_aload_n C hl.1 dL_law_932 rfl ?_
  refine lv_aload_n hx hb dL_law_933 rfl hl.2 ?_
  refine x_iload_n C hl.1 dL_law_934 rfl ?_
  refine lv_iconst (v := (1 : Int32)) hx hb dL_law_935 (by decide) ?_
  refine lv_iadd hx hb dL_law_936 ?_
  refine va_sld hx hb hX hbl hbA hS v140 dL_law_937 ?_
  refine y_i (x_run (As := [.int (xs (l3 + (1 : Int32)).toNatClampNeg)]) C hW hS (T_X12_ask l l2 (xs (l3 + (1 : Int32)).toNatClampNeg) s141 _ h) t12 kl_12 (CW.of yv_X12_ask ml_L_117) ⟨rfl, rfl, ⟨by decide, by decide⟩, by decide, by decide⟩ rfl hl.1.1 rfl (by simp [rv_cat, cat_i, cat_l]) dL_law_938) hS (fun w144 s143 H locs h hW hS => ?_)
  refine lv_icmp_eq hx hb dL_law_941 (tgt := 992) rfl (fun hc => ?_) (fun hc => ?_)
  · replace h := h.1 hc
    exact t_L_992 C hX hbl hbA hl hS hW hK h
  · exact (h.2 hc).elim
set_option maxRecDepth 20000 in
set_option maxHeartbeats 4000000 in
theorem t_L_c24 {p : Program} {l : Launch} {e : Env} {s : State} {m : MethodId} {below : List Frame} {meth : Method} {c : Code} {D : va_G} {tc : Nat → ClassId} {b0 b L : Nat} {xs : Nat → Int32} {G : Lay} {l1 l2 : Nat} {K : Int32 × Mem → Prop} {l3 : Int32} {σ : Mem} {H : Heap} {locs : List Loc} {ls : Array Slot} (C : Cx p s m #[Value.ref b] meth c cL_law RL 4 D tc b0) (hX : va_X b L xs s s.heap) (hbl : b < s.heap.size) (hbA : ¬ AA b0 b) (t11 : gT G l1 = 12) (t12 : gT G l2 = 13) (hl : hLb b0 b ls 4 [none, some (.inr (.inr l1)), some (.inr (.inr l2)), some (.inl l3)]) (hS : va_S (AA b0) s.heap H locs) (hW : Wd G D tc b0 σ H) (hK : ∀ (l3 : Int32) (σ : Mem) (H : Heap) (locs : List Loc) (ls : Array Slot), va_S (AA b0) s.heap H locs → Wd G D tc b0 σ H → hLb b0 b ls 4 [none, some (.inr (.inr l1)), some (.inr (.inr l2)), some (.inl l3)] → K (l3, σ) → W p l e room_1 s m #[Value.ref b] below meth c H locs 1347 147115 (lw_Z below #[Value.ref b] s) (F0 m 18 ls [])) (h : X_L_c24 G xs L l1 l2 K l3 σ) : W p l e room_1 s m #[Value.ref b] below meth c H locs 1347 147115 (lw_Z below #[Value.ref b] s) (F0 m 946 ls []) := by
  have hx := C.1
  have hb := C.2.1
  unfold X_L_c24 at h
  refine x_aload_n C hl.1 dL_law_946 rfl ?_
  refine lv_aload_n hx hb dL_law_947 rfl hl.2 ?_
  refine x_iload_n C hl.1 dL_law_948 rfl ?_
  refine lv_iconst (v := (1 : Int32)) hx hb dL_law_949 (by decide) ?_
  refine lv_iadd hx hb dL_law_950 ?_
  have v145 := h.1
  replace h := h.2
  refine va_sld hx hb hX hbl hbA hS v145 dL_law_951 ?_
  refine y_i (x_run (As := [.int (xs (l3 + (1 : Int32)).toNatClampNeg)]) C hW hS (T_X11_found l l1 (xs (l3 + (1 : Int32)).toNatClampNeg) σ _ h) t11 kl_11 (CW.of yv_X11_found ml_L_118) ⟨rfl, rfl, ⟨by decide, by decide⟩, by decide, by decide⟩ rfl hl.1.1 rfl (by decide) dL_law_952) hS (fun w147 s146 H locs h hW hS => ?_)
  refine x_aload_n C hl.1 dL_law_955 rfl ?_
  refine lv_aload_n hx hb dL_law_956 rfl hl.2 ?_
  refine x_iload_n C hl.1 dL_law_957 rfl ?_
  refine lv_iconst (v := (1 : Int32)) hx hb dL_law_958 (by decide) ?_
  refine lv_iadd hx hb dL_law_959 ?_
  refine va_sld hx hb hX hbl hbA hS v145 dL_law_960 ?_
  refine y_i (x_run (As := [.int (xs (l3 + (1 : Int32)).toNatClampNeg)]) C hW hS (T_X12_found l l2 (xs (l3 + (1 : Int32)).toNatClampNeg) s146 _ h) t12 kl_12 (CW.of yv_X12_found ml_L_121) ⟨rfl, rfl, ⟨by decide, by decide⟩, by decide, by decide⟩ rfl hl.1.1 rfl (by simp [rv_cat, cat_i, cat_l]) dL_law_961) hS (fun w149 s148 H locs h hW hS => ?_)
  refine lv_icmp_eq hx hb dL_law_964 (tgt := 992) rfl (fun hc => ?_) (fun hc => ?_)
  · replace h := h.1 hc
    exact t_L_992 C hX hbl hbA hl hS hW hK h
  · exact (h.2 hc).elim
set_option maxRecDepth 20000 in
set_option maxHeartbeats 4000000 in
theorem t_L_c25 {p : Program} {l : Launch} {e : Env} {s : State} {m : MethodId} {below : List Frame} {meth : Method} {c : Code} {D : va_G} {tc : Nat → ClassId} {b0 b L : Nat} {xs : Nat → Int32} {G : Lay} {l1 l2 : Nat} {K : Int32 × Mem → Prop} {l3 : Int32} {σ : Mem} {H : Heap} {locs : List Loc} {ls : Array Slot} (C : Cx p s m #[Value.ref b] meth c cL_law RL 4 D tc b0) (hX : va_X b L xs s s.heap) (hbl : b < s.heap.size) (hbA : ¬ AA b0 b) (t11 : gT G l1 = 12) (t12 : gT G l2 = 13) (hl : hLb b0 b ls 4 [none, some (.inr (.inr l1)), some (.inr (.inr l2)), some (.inl l3)]) (hS : va_S (AA b0) s.heap H locs) (hW : Wd G D tc b0 σ H) (hK : ∀ (l3 : Int32) (σ : Mem) (H : Heap) (locs : List Loc) (ls : Array Slot), va_S (AA b0) s.heap H locs → Wd G D tc b0 σ H → hLb b0 b ls 4 [none, some (.inr (.inr l1)), some (.inr (.inr l2)), some (.inl l3)] → K (l3, σ) → W p l e room_1 s m #[Value.ref b] below meth c H locs 1347 147115 (lw_Z below #[Value.ref b] s) (F0 m 18 ls [])) (h : X_L_c25 G xs L l1 l2 K l3 σ) : W p l e room_1 s m #[Value.ref b] below meth c H locs 1347 147115 (lw_Z below #[Value.ref b] s) (F0 m 969 ls []) := by
  have hx := C.1
  have hb := C.2.1
  unfold X_L_c25 at h
  refine x_aload_n C hl.1 dL_law_969 rfl ?_
  refine lv_aload_n hx hb dL_law_970 rfl hl.2 ?_
  refine x_iload_n C hl.1 dL_law_971 rfl ?_
  refine lv_iconst (v := (1 : Int32)) hx hb dL_law_972 (by decide) ?_
  refine lv_iadd hx hb dL_law_973 ?_
  have v150 := h.1
  replace h := h.2
  refine va_sld hx hb hX hbl hbA hS v150 dL_law_974 ?_
  refine y_i (x_run (As := [.int (xs (l3 + (1 : Int32)).toNatClampNeg)]) C hW hS (T_X11_count l l1 (xs (l3 + (1 : Int32)).toNatClampNeg) σ _ h) t11 kl_11 (CW.of yv_X11_count ml_L_122) ⟨rfl, rfl, ⟨by decide, by decide⟩, by decide, by decide⟩ rfl hl.1.1 rfl (by decide) dL_law_975) hS (fun w152 s151 H locs h hW hS => ?_)
  refine x_aload_n C hl.1 dL_law_978 rfl ?_
  refine lv_aload_n hx hb dL_law_979 rfl hl.2 ?_
  refine x_iload_n C hl.1 dL_law_980 rfl ?_
  refine lv_iconst (v := (1 : Int32)) hx hb dL_law_981 (by decide) ?_
  refine lv_iadd hx hb dL_law_982 ?_
  refine va_sld hx hb hX hbl hbA hS v150 dL_law_983 ?_
  refine y_i (x_run (As := [.int (xs (l3 + (1 : Int32)).toNatClampNeg)]) C hW hS (T_X12_count l l2 (xs (l3 + (1 : Int32)).toNatClampNeg) s151 _ h) t12 kl_12 (CW.of yv_X12_count ml_L_125) ⟨rfl, rfl, ⟨by decide, by decide⟩, by decide, by decide⟩ rfl hl.1.1 rfl (by simp [rv_cat, cat_i, cat_l]) dL_law_984) hS (fun w154 s153 H locs h hW hS => ?_)
  refine lv_icmp_eq hx hb dL_law_987 (tgt := 992) rfl (fun hc => ?_) (fun hc => ?_)
  · replace h := h.1 hc
    exact t_L_992 C hX hbl hbA hl hS hW hK h
  · exact (h.2 hc).elim
set_option maxRecDepth 20000 in
set_option maxHeartbeats 4000000 in
theorem t_L_n {p : Program} {l : Launch} {e : Env} {s : State} {m : MethodId} {below : List Frame} {meth : Method} {c : Code} {D : va_G} {tc : Nat → ClassId} {b0 b L : Nat} {xs : Nat → Int32} {G : Lay} {l1 l2 : Nat} (C : Cx p s m #[Value.ref b] meth c cL_law RL 4 D tc b0) (hX : va_X b L xs s s.heap) (hbl : b < s.heap.size) (hbA : ¬ AA b0 b) (hb0 : s.heap.size = b0 + 1) (hr : meth.sig.returnType = ret) (t11 : gT G l1 = 12) (t12 : gT G l2 = 13) (n : Nat) : ∀ (l3 : Int32) (σ : Mem) (H : Heap) (locs : List Loc) (ls : Array Slot), va_S (AA b0) s.heap H locs → Wd G D tc b0 σ H → hLb b0 b ls 4 [none, some (.inr (.inr l1)), some (.inr (.inr l2)), some (.inl l3)] → Lp (X_L_s G xs L l1 l2) n (l3, σ) → W p l e room_1 s m #[Value.ref b] below meth c H locs 1347 147115 (lw_Z below #[Value.ref b] s) (F0 m 18 ls []) := by
  have hx := C.1
  have hb := C.2.1
  induction n with
  | zero => intro l3 σ H locs ls hS hW hl h; exact False.elim h
  | succ n hK =>
    intro l3 σ H locs ls hS hW hl h
    replace h : X_L_s G xs L l1 l2 (Lp (X_L_s G xs L l1 l2) n) (l3, σ) := h
    unfold X_L_s at h
    refine x_iload_n C hl.1 dL_law_18 rfl ?_
    refine lv_aload_n hx hb dL_law_19 rfl hl.2 ?_
    refine va_slen hx hb hX hbl hbA hS dL_law_20 ?_
    refine lv_bipush (v := (6 : Int32)) hx hb dL_law_21 (by decide) ?_
    refine lv_isub hx hb dL_law_23 ?_
    refine lv_icmp_gt hx hb dL_law_24 (tgt := 998) rfl (fun hc => ?_) (fun hc => ?_)
    · refine lv_iconst (v := (1 : Int32)) hx hb dL_law_998 (by decide) ?_
      refine va_forget (fun q hq => by have := hS.2.2 q hq; show s.heap.size ≤ q.base; have h2 : b0 < q.base := this; omega) ?_
      refine W.widen (k := 600000) (n := 7302250) (by decide) (by decide) ?_
      exact lw_ret hx hb hr C.2.2.2.2.2.2.1 dL_law_999
    · replace h := h.2 hc
      have v0 := h.1
      replace h := h.2
      refine lv_aload_n hx hb dL_law_27 rfl hl.2 ?_
      refine x_iload_n C hl.1 dL_law_28 rfl ?_
      refine va_sld hx hb hX hbl hbA hS v0 dL_law_29 ?_
      refine lv_bipush (v := (31 : Int32)) hx hb dL_law_30 (by decide) ?_
      refine lv_iand hx hb dL_law_32 ?_
      by_cases hc0 : (xs l3.toNatClampNeg &&& (31 : Int32)) = 0
      · replace h := h.1 hc0
        rw [hc0]
        refine lv_tableIn hx hb dL_law_33 (by decide) (by decide) (off := 119) rfl (tgt := 152) rfl ?_
        exact t_L_c0 C hX hbl hbA t11 t12 hl hS hW hK h
      replace h := h.2
      by_cases hc1 : (xs l3.toNatClampNeg &&& (31 : Int32)) = 1
      · replace h := h.1 hc1
        rw [hc1]
        refine lv_tableIn hx hb dL_law_33 (by decide) (by decide) (off := 182) rfl (tgt := 215) rfl ?_
        exact t_L_c1 C hX hbl hbA t11 t12 hl hS hW hK h
      replace h := h.2
      by_cases hc2 : (xs l3.toNatClampNeg &&& (31 : Int32)) = 2
      · replace h := h.1 hc2
        rw [hc2]
        refine lv_tableIn hx hb dL_law_33 (by decide) (by decide) (off := 205) rfl (tgt := 238) rfl ?_
        exact t_L_c2 C hX hbl hbA t11 t12 hl hS hW hK h
      replace h := h.2
      by_cases hc3 : (xs l3.toNatClampNeg &&& (31 : Int32)) = 3
      · replace h := h.1 hc3
        rw [hc3]
        refine lv_tableIn hx hb dL_law_33 (by decide) (by decide) (off := 218) rfl (tgt := 251) rfl ?_
        exact t_L_c3 C hX hbl hbA t11 t12 hl hS hW hK h
      replace h := h.2
      by_cases hc4 : (xs l3.toNatClampNeg &&& (31 : Int32)) = 4
      · replace h := h.1 hc4
        rw [hc4]
        refine lv_tableIn hx hb dL_law_33 (by decide) (by decide) (off := 241) rfl (tgt := 274) rfl ?_
        exact t_L_c4 C hX hbl hbA t11 t12 hl hS hW hK h
      replace h := h.2
      by_cases hc5 : (xs l3.toNatClampNeg &&& (31 : Int32)) = 5
      · replace h := h.1 hc5
        rw [hc5]
        refine lv_tableIn hx hb dL_law_33 (by decide) (by decide) (off := 274) rfl (tgt := 307) rfl ?_
        exact t_L_c5 C hX hbl hbA t11 t12 hl hS hW hK h
      replace h := h.2
      by_cases hc6 : (xs l3.toNatClampNeg &&& (31 : Int32)) = 6
      · replace h := h.1 hc6
        rw [hc6]
        refine lv_tableIn hx hb dL_law_33 (by decide) (by decide) (off := 317) rfl (tgt := 350) rfl ?_
        exact t_L_c6 C hX hbl hbA t11 t12 hl hS hW hK h
      replace h := h.2
      by_cases hc7 : (xs l3.toNatClampNeg &&& (31 : Int32)) = 7
      · replace h := h.1 hc7
        rw [hc7]
        refine lv_tableIn hx hb dL_law_33 (by decide) (by decide) (off := 330) rfl (tgt := 363) rfl ?_
        exact t_L_c7 C hX hbl hbA t11 t12 hl hS hW hK h
      replace h := h.2
      by_cases hc8 : (xs l3.toNatClampNeg &&& (31 : Int32)) = 8
      · replace h := h.1 hc8
        rw [hc8]
        refine lv_tableIn hx hb dL_law_33 (by decide) (by decide) (off := 363) rfl (tgt := 396) rfl ?_
        exact t_L_c8 C hX hbl hbA t11 t12 hl hS hW hK h
      replace h := h.2
      by_cases hc9 : (xs l3.toNatClampNeg &&& (31 : Int32)) = 9
      · replace h := h.1 hc9
        rw [hc9]
        refine lv_tableIn hx hb dL_law_33 (by decide) (by decide) (off := 386) rfl (tgt := 419) rfl ?_
        exact t_L_c9 C hX hbl hbA t11 t12 hl hS hW hK h
      replace h := h.2
      by_cases hc10 : (xs l3.toNatClampNeg &&& (31 : Int32)) = 10
      · replace h := h.1 hc10
        rw [hc10]
        refine lv_tableIn hx hb dL_law_33 (by decide) (by decide) (off := 409) rfl (tgt := 442) rfl ?_
        exact t_L_c10 C hX hbl hbA t11 t12 hl hS hW hK h
      replace h := h.2
      by_cases hc11 : (xs l3.toNatClampNeg &&& (31 : Int32)) = 11
      · replace h := h.1 hc11
        rw [hc11]
        refine lv_tableIn hx hb dL_law_33 (by decide) (by decide) (off := 442) rfl (tgt := 475) rfl ?_
        exact t_L_c11 C hX hbl hbA t11 t12 hl hS hW hK h
      replace h := h.2
      by_cases hc12 : (xs l3.toNatClampNeg &&& (31 : Int32)) = 12
      · replace h := h.1 hc12
        rw [hc12]
        refine lv_tableIn hx hb dL_law_33 (by decide) (by decide) (off := 475) rfl (tgt := 508) rfl ?_
        exact t_L_c12 C hX hbl hbA t11 t12 hl hS hW hK h
      replace h := h.2
      by_cases hc13 : (xs l3.toNatClampNeg &&& (31 : Int32)) = 13
      · replace h := h.1 hc13
        rw [hc13]
        refine lv_tableIn hx hb dL_law_33 (by decide) (by decide) (off := 518) rfl (tgt := 551) rfl ?_
        exact t_L_c13 C hX hbl hbA t11 t12 hl hS hW hK h
      replace h := h.2
      by_cases hc14 : (xs l3.toNatClampNeg &&& (31 : Int32)) = 14
      · replace h := h.1 hc14
        rw [hc14]
        refine lv_tableIn hx hb dL_law_33 (by decide) (by decide) (off := 551) rfl (tgt := 584) rfl ?_
        exact t_L_c14 C hX hbl hbA t11 t12 hl hS hW hK h
      replace h := h.2
      by_cases hc15 : (xs l3.toNatClampNeg &&& (31 : Int32)) = 15
      · replace h := h.1 hc15
        rw [hc15]
        refine lv_tableIn hx hb dL_law_33 (by decide) (by decide) (off := 585) rfl (tgt := 618) rfl ?_
        exact t_L_c15 C hX hbl hbA t11 t12 hl hS hW hK h
      replace h := h.2
      by_cases hc16 : (xs l3.toNatClampNeg &&& (31 : Int32)) = 16
      · replace h := h.1 hc16
        rw [hc16]
        refine lv_tableIn hx hb dL_law_33 (by decide) (by decide) (off := 628) rfl (tgt := 661) rfl ?_
        exact t_L_c16 C hX hbl hbA t11 t12 hl hS hW hK h
      replace h := h.2
      by_cases hc17 : (xs l3.toNatClampNeg &&& (31 : Int32)) = 17
      · replace h := h.1 hc17
        rw [hc17]
        refine lv_tableIn hx hb dL_law_33 (by decide) (by decide) (off := 671) rfl (tgt := 704) rfl ?_
        exact t_L_c17 C hX hbl hbA t11 t12 hl hS hW hK h
      replace h := h.2
      by_cases hc18 : (xs l3.toNatClampNeg &&& (31 : Int32)) = 18
      · replace h := h.1 hc18
        rw [hc18]
        refine lv_tableIn hx hb dL_law_33 (by decide) (by decide) (off := 704) rfl (tgt := 737) rfl ?_
        exact t_L_c18 C hX hbl hbA t11 t12 hl hS hW hK h
      replace h := h.2
      by_cases hc19 : (xs l3.toNatClampNeg &&& (31 : Int32)) = 19
      · replace h := h.1 hc19
        rw [hc19]
        refine lv_tableIn hx hb dL_law_33 (by decide) (by decide) (off := 747) rfl (tgt := 780) rfl ?_
        exact t_L_c19 C hX hbl hbA t11 t12 hl hS hW hK h
      replace h := h.2
      by_cases hc20 : (xs l3.toNatClampNeg &&& (31 : Int32)) = 20
      · replace h := h.1 hc20
        rw [hc20]
        refine lv_tableIn hx hb dL_law_33 (by decide) (by decide) (off := 770) rfl (tgt := 803) rfl ?_
        exact t_L_c20 C hX hbl hbA t11 t12 hl hS hW hK h
      replace h := h.2
      by_cases hc21 : (xs l3.toNatClampNeg &&& (31 : Int32)) = 21
      · replace h := h.1 hc21
        rw [hc21]
        refine lv_tableIn hx hb dL_law_33 (by decide) (by decide) (off := 793) rfl (tgt := 826) rfl ?_
        exact t_L_c21 C hX hbl hbA t11 t12 hl hS hW hK h
      replace h := h.2
      by_cases hc22 : (xs l3.toNatClampNeg &&& (31 : Int32)) = 22
      · replace h := h.1 hc22
        rw [hc22]
        refine lv_tableIn hx hb dL_law_33 (by decide) (by decide) (off := 846) rfl (tgt := 879) rfl ?_
        exact t_L_c22 C hX hbl hbA t11 t12 hl hS hW hK h
      replace h := h.2
      by_cases hc23 : (xs l3.toNatClampNeg &&& (31 : Int32)) = 23
      · replace h := h.1 hc23
        rw [hc23]
        refine lv_tableIn hx hb dL_law_33 (by decide) (by decide) (off := 890) rfl (tgt := 923) rfl ?_
        exact t_L_c23 C hX hbl hbA t11 t12 hl hS hW hK h
      replace h := h.2
      by_cases hc24 : (xs l3.toNatClampNeg &&& (31 : Int32)) = 24
      · replace h := h.1 hc24
        rw [hc24]
        refine lv_tableIn hx hb dL_law_33 (by decide) (by decide) (off := 913) rfl (tgt := 946) rfl ?_
        exact t_L_c24 C hX hbl hbA t11 t12 hl hS hW hK h
      replace h := h.2
      by_cases hc25 : (xs l3.toNatClampNeg &&& (31 : Int32)) = 25
      · replace h := h.1 hc25
        rw [hc25]
        refine lv_tableIn hx hb dL_law_33 (by decide) (by decide) (off := 936) rfl (tgt := 969) rfl ?_
        exact t_L_c25 C hX hbl hbA t11 t12 hl hS hW hK h
      replace h := h.2
      replace h := h ⟨hc0, hc1, hc2, hc3, hc4, hc5, hc6, hc7, hc8, hc9, hc10, hc11, hc12, hc13, hc14, hc15, hc16, hc17, hc18, hc19, hc20, hc21, hc22, hc23, hc24, hc25⟩
      refine lv_tableOut hx hb dL_law_33 (tb_out26 hc0 hc1 hc2 hc3 hc4 hc5 hc6 hc7 hc8 hc9 hc10 hc11 hc12 hc13 hc14 hc15 hc16 hc17 hc18 hc19 hc20 hc21 hc22 hc23 hc24 hc25) (tgt := 992) rfl ?_
      exact t_L_992 C hX hbl hbA hl hS hW hK h
