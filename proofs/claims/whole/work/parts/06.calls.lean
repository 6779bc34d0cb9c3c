theorem good_tbl {ws : List Cond} (h : ∀ w ∈ ws, w ∈ gtbl) : GoodIn gtbl ws := fun w hw => ⟨h w hw, good_of_word (List.mem_filter.mp (h w hw)).2⟩
def yOk (y : MethodName) (n : Nat) : Prop := y.cls ≠ "java/lang/invoke/MethodHandle" ∧ y.cls ≠ "java/lang/invoke/VarHandle" ∧ (parseMethodDescriptor y.desc).map (fun d => d.parameters.length) = some n
/-- a call of an instance's method out of a class, by its number there -/
def CW (own : String) (index : Nat) (Cn : String) (y : MethodName) (bytes : ByteArray) (maxL : Nat) (ret : Option FieldType) (n : Nat) : Prop := GoodIn gtbl (wsV own index Cn y (.code y bytes maxL ret :: gtbl)) ∧ y.cls = Cn ∧ yOk y n
def CS (own : String) (index : Nat) (y : MethodName) (bytes : ByteArray) (maxL : Nat) (ret : Option FieldType) (n : Nat) : Prop := GoodIn gtbl (va_wsS own index y (.code y bytes maxL ret :: gtbl)) ∧ yOk y n
/-- a method of ours: its words -/
def YV (Cn : String) (y : MethodName) (bytes : ByteArray) (maxL : Nat) (ret : Option FieldType) (n : Nat) : Prop := Cond.instanceMethod y ∈ gtbl ∧ Cond.selects Cn y y ∈ gtbl ∧ Cond.initialized Cn ∈ gtbl ∧ Cond.code y bytes maxL ret ∈ gtbl ∧ y.cls = Cn ∧ yOk y n
def YS (y : MethodName) (bytes : ByteArray) (maxL : Nat) (ret : Option FieldType) (n : Nat) : Prop := Cond.static y ∈ gtbl ∧ Cond.initialized y.cls ∈ gtbl ∧ Cond.code y bytes maxL ret ∈ gtbl ∧ yOk y n
theorem CW.of {own : String} {index : Nat} {Cn : String} {y : MethodName} {bytes : ByteArray} {maxL n : Nat} {ret : Option FieldType} (Y : YV Cn y bytes maxL ret n) (hl : Cond.methodLink own index y ∈ gtbl) : CW own index Cn y bytes maxL ret n := by
  obtain ⟨h1, h2, h3, h4, h5, h6⟩ := Y
  refine ⟨good_tbl (fun w hw => ?_), h5, h6⟩
  simp only [wsV, List.cons_append, List.nil_append, List.mem_cons] at hw
  rcases hw with rfl | rfl | rfl | rfl | rfl | hw
  · exact hl
  · exact h1
  · exact h2
  · exact h3
  · exact h4
  · exact hw
theorem CS.of {own : String} {index : Nat} {y : MethodName} {bytes : ByteArray} {maxL n : Nat} {ret : Option FieldType} (Y : YS y bytes maxL ret n) (hl : Cond.methodLink own index y ∈ gtbl) : CS own index y bytes maxL ret n := by
  obtain ⟨h1, h2, h3, h6⟩ := Y
  refine ⟨good_tbl (fun w hw => ?_), h6⟩
  simp only [va_wsS, List.cons_append, List.nil_append, List.mem_cons] at hw
  rcases hw with rfl | rfl | rfl | rfl | hw
  · exact hl
  · exact h1
  · exact h2
  · exact h3
  · exact hw
def Pw (G : Lay) (D : va_G) (tc : Nat → ClassId) (b0 : Nat) (σ : Mem) (U : State) : Prop := Wd G D tc b0 σ U.heap ∧ va_K D vwCl (tys tc) U
def Pv (G : Lay) (D : va_G) (tc : Nat → ClassId) (b0 : Nat) (σ : Mem) (U : State) : Prop := Pw G D tc b0 σ U ∧ Sx b0 U U.heap
/-! contracts: of a method that answers an int, a long, nothing, a reference -/
def MI (l : Launch) (y : MethodName) (bytes : ByteArray) (maxL : Nat) (ret : Option FieldType) (rm : Room) (G : Lay) (D : va_G) (tc : Nat → ClassId) (b0 : Nat) (As : List Value) (σ : Mem) (Qx : Int32 → Mem → Prop) : Prop := Met l y (.code y bytes maxL ret :: gtbl) rm (va_Pc As (Pv G D tc b0 σ)) (va_Qi Qx (fun u t => Pw G D tc b0 u t) (AA b0)) 0 0 (AA b0)
def ML (l : Launch) (y : MethodName) (bytes : ByteArray) (maxL : Nat) (ret : Option FieldType) (rm : Room) (G : Lay) (D : va_G) (tc : Nat → ClassId) (b0 : Nat) (As : List Value) (σ : Mem) (Qx : Int64 → Mem → Prop) : Prop := Met l y (.code y bytes maxL ret :: gtbl) rm (va_Pc As (Pv G D tc b0 σ)) (va_Ql Qx (fun u t => Pw G D tc b0 u t) (AA b0)) 0 0 (AA b0)
def MV (l : Launch) (y : MethodName) (bytes : ByteArray) (maxL : Nat) (ret : Option FieldType) (rm : Room) (G : Lay) (D : va_G) (tc : Nat → ClassId) (b0 : Nat) (As : List Value) (σ : Mem) (Qx : Mem → Prop) : Prop := Met l y (.code y bytes maxL ret :: gtbl) rm (va_Pc As (Pv G D tc b0 σ)) (va_Qv Qx (fun u t => Pw G D tc b0 u t) (AA b0)) 0 0 (AA b0)
def MR (l : Launch) (y : MethodName) (bytes : ByteArray) (maxL : Nat) (ret : Option FieldType) (rm : Room) (G : Lay) (D : va_G) (tc : Nat → ClassId) (b0 : Nat) (As : List Value) (σ : Mem) (Qx : Nat → Mem → Prop) : Prop := Met l y (.code y bytes maxL ret :: gtbl) rm (va_Pc As (Pv G D tc b0 σ)) (va_Qq (fun o u => ∃ r, o = ro b0 r ∧ Qx r u) (fun u t => Pw G D tc b0 u t) (AA b0)) 0 0 (AA b0)
section XC
variable {p : Program} {l : Launch} {e : Env} {R : Room} {s : State} {m : MethodId} {args : Array Value} {below : List Frame} {meth : Method} {c : Code} {H : Heap} {locs : List Loc} {cells slots : Nat} {Q : State → Prop}
variable {D : va_G} {tc : Nat → ClassId} {b0 : Nat} {cc : ByteArray} {own : String} {nL pc : Nat} {ls : Array Slot} {rest st0 : List Value} {σ : Mem} {G : Lay}
variable {y : MethodName} {bytes : ByteArray} {maxL n index : Nat} {ret : Option FieldType} {rm : Room} {As : List Value}
/-- what a call needs of room -/
abbrev Rk (rm R : Room) (maxL cells slots : Nat) : Prop := rm.cells = 0 ∧ rm.slots = 0 ∧ (rm.frames + 1 ≤ R.frames ∧ 8 + (maxL + 11) + rm.locals ≤ R.locals) ∧ cells ≤ R.cells ∧ slots ≤ R.slots
theorem x_run (C : Cx p s m args meth c cc own nL D tc b0) (hW : Wd G D tc b0 σ H) (hS : va_S (AA b0) s.heap H locs) {Qc : Array Value → State → Outcome → State → Prop} {r t N : Nat} {Cn : String} {T : u_T} (hM : Met l y (.code y bytes maxL ret :: gtbl) rm (va_Pc (rv b0 r :: As) (Pv G D tc b0 σ)) Qc 0 0 (AA b0)) (ht : gT G r = t + 1) (K : Kl t Cn T N) (hw : CW own index Cn y bytes maxL ret n) (hrm : Rk rm R maxL cells slots) (hn : As.length = n) (hls : ls.size = nL) (hst : st0 = As.reverse ++ rv b0 r :: rest) (hcat : (rest.map fun v => v.category).sum ≤ 8) (hdg : decode cc pc = .ok (.invokevirtual index, 3)) : va_Run p l e R s m args below meth c H locs cells slots 0 0 (F0 m pc ls st0) rest (Qc (rv b0 r :: As).toArray) (AA b0) := by
  have hg := wd_get (tc := tc) (b0 := b0) (σ := σ) hW.2 (gT_ne ht)
  rw [cel_o ht K.2.2.1] at hg
  have hr := ref_of (b0 := b0) hW.2 ht
  rw [hr] at hM hst ⊢
  refine va_runV (As := As) (rest := rest) ⟨C.1, C.2.1, C.2.2.1, C.2.2.2.1, C.2.2.2.2.1⟩ hM (cwV n C.2.2.2.2.1 hw.1 rfl hrm.1 hrm.2.1 hw.2 hrm.2.2.1) ⟨?_, va_recv C.2.2.2.2.2.1 hW.1 K.1 hg, ?_⟩ rfl hn hls hst (lv_room hcat) hdg hrm.2.2.2
  · intro a U g mk q
    exact ⟨q.1, ⟨q.2.1.1, va_K.moved (u := U) (U := U.calling g mk a) (Vm.Alike.refl U.vm) q.2.1.2⟩, q.2.2.same (U := U.calling g mk a) rfl⟩
  · intro U hU hWm
    exact ⟨rfl, ⟨by rw [hU]; exact hW, va_K.moved hWm.alike C.2.2.2.2.2.1⟩, by rw [hU]; exact C.2.2.2.2.2.2.2.go hWm (fun a h1 h2 => hS.2.1 a h1 h2)⟩
theorem x_runS (C : Cx p s m args meth c cc own nL D tc b0) (hW : Wd G D tc b0 σ H) (hS : va_S (AA b0) s.heap H locs) {Qc : Array Value → State → Outcome → State → Prop} (hM : Met l y (.code y bytes maxL ret :: gtbl) rm (va_Pc As (Pv G D tc b0 σ)) Qc 0 0 (AA b0)) (hw : CS own index y bytes maxL ret n) (hrm : Rk rm R maxL cells slots) (hn : As.length = n) (hls : ls.size = nL) (hst : st0 = As.reverse ++ rest) (hcat : (rest.map fun v => v.category).sum ≤ 8) (hdg : decode cc pc = .ok (.invokestatic index, 3)) : va_Run p l e R s m args below meth c H locs cells slots 0 0 (F0 m pc ls st0) rest (Qc As.toArray) (AA b0) := by
  refine va_runS (As := As) (rest := rest) ⟨C.1, C.2.1, C.2.2.1, C.2.2.2.1, C.2.2.2.2.1⟩ hM (va_cwS n C.2.2.2.2.1 hw.1 rfl hrm.1 hrm.2.1 hw.2 hrm.2.2.1) ⟨?_, ?_⟩ rfl hn hls hst (lv_room hcat) hdg hrm.2.2.2
  · intro a U g mk q
    exact ⟨q.1, ⟨q.2.1.1, va_K.moved (u := U) (U := U.calling g mk a) (Vm.Alike.refl U.vm) q.2.1.2⟩, q.2.2.same (U := U.calling g mk a) rfl⟩
  · intro U hU hWm
    exact ⟨rfl, ⟨by rw [hU]; exact hW, va_K.moved hWm.alike C.2.2.2.2.2.1⟩, by rw [hU]; exact C.2.2.2.2.2.2.2.go hWm (fun a h1 h2 => hS.2.1 a h1 h2)⟩
variable {free : Addr → Prop} {a : Array Value}
theorem y_i {Qx : Int32 → Mem → Prop} (hr : va_Run p l e R s m args below meth c H locs cells slots 0 0 (F0 m pc ls st0) rest (va_Qi Qx (fun u t => Pw G D tc b0 u t) (AA b0) a) (AA b0)) (hS : va_S (AA b0) s.heap H locs) (kk : ∀ (v : Int32) (u : Mem) (H1 : Heap) (locs1 : List Loc), Qx v u → Wd G D tc b0 u H1 → va_S (AA b0) s.heap H1 locs1 → W p l e R s m args below meth c H1 locs1 cells slots Q (F0 m (pc + 3) ls (.int v :: rest))) : W p l e R s m args below meth c H locs cells slots Q (F0 m pc ls st0) :=
  va_calli hr hS (fun _ _ h => h) (fun _ h => h) (fun v u _ H1 locs1 ht _ hp hB _ _ hS1 => kk v u H1 locs1 hp (ht ▸ hB.1) hS1)
theorem y_l {Qx : Int64 → Mem → Prop} (hr : va_Run p l e R s m args below meth c H locs cells slots 0 0 (F0 m pc ls st0) rest (va_Ql Qx (fun u t => Pw G D tc b0 u t) (AA b0) a) (AA b0)) (hS : va_S (AA b0) s.heap H locs) (kk : ∀ (v : Int64) (u : Mem) (H1 : Heap) (locs1 : List Loc), Qx v u → Wd G D tc b0 u H1 → va_S (AA b0) s.heap H1 locs1 → W p l e R s m args below meth c H1 locs1 cells slots Q (F0 m (pc + 3) ls (.long v :: rest))) : W p l e R s m args below meth c H locs cells slots Q (F0 m pc ls st0) :=
  va_calll hr hS (fun _ _ h => h) (fun _ h => h) (fun v u _ H1 locs1 ht _ hp hB _ _ hS1 => kk v u H1 locs1 hp (ht ▸ hB.1) hS1)
theorem y_v {Qx : Mem → Prop} (hr : va_Run p l e R s m args below meth c H locs cells slots 0 0 (F0 m pc ls st0) rest (va_Qv Qx (fun u t => Pw G D tc b0 u t) (AA b0) a) (AA b0)) (hS : va_S (AA b0) s.heap H locs) (kk : ∀ (u : Mem) (H1 : Heap) (locs1 : List Loc), Qx u → Wd G D tc b0 u H1 → va_S (AA b0) s.heap H1 locs1 → W p l e R s m args below meth c H1 locs1 cells slots Q (F0 m (pc + 3) ls rest)) : W p l e R s m args below meth c H locs cells slots Q (F0 m pc ls st0) :=
  va_callv hr hS (fun _ _ h => h) (fun _ h => h) (fun u _ H1 locs1 ht _ hp hB _ _ hS1 => kk u H1 locs1 hp (ht ▸ hB.1) hS1)
theorem y_r {Qx : Nat → Mem → Prop} (hr : va_Run p l e R s m args below meth c H locs cells slots 0 0 (F0 m pc ls st0) rest (va_Qq (fun o u => ∃ r, o = ro b0 r ∧ Qx r u) (fun u t => Pw G D tc b0 u t) (AA b0) a) (AA b0)) (hS : va_S (AA b0) s.heap H locs) (kk : ∀ (v : Nat) (u : Mem) (H1 : Heap) (locs1 : List Loc), Qx v u → Wd G D tc b0 u H1 → va_S (AA b0) s.heap H1 locs1 → W p l e R s m args below meth c H1 locs1 cells slots Q (F0 m (pc + 3) ls (rv b0 v :: rest))) : W p l e R s m args below meth c H locs cells slots Q (F0 m pc ls st0) :=
  va_callq hr hS (fun _ _ h => h) (fun _ h => h) (fun o u _ H1 locs1 ht _ hp hB _ _ hS1 => by
    obtain ⟨r, rfl, hq⟩ := hp
    exact kk r u H1 locs1 hq (ht ▸ hB.1) hS1)
/-! ends -/
abbrev bz (v : Int32) : Prop := v = 0 ∨ v = 1
theorem bz_n {v : Int32} (h : bz v) : narrow .boolean (.int v) = .int v := by rcases h with rfl | rfl <;> rfl
theorem bz_f {v : Int32} (h : bz v) : fits .boolean (.int v) = true := by rcases h with rfl | rfl <;> rfl
theorem r_i {Qx : Int32 → Mem → Prop} (C : Cx p s m args meth c cc own nL D tc b0) (hr : meth.sig.returnType = some .int) (hW : Wd G D tc b0 σ H) (hS : va_S (AA b0) s.heap H locs) {v : Int32} (hq : Qx v σ) (hdg : decode cc pc = .ok (.ireturn, 1)) : W p l e R s m args below meth c H locs 0 0 (MQ below (va_Qi Qx (fun u t => Pw G D tc b0 u t) (AA b0)) args s 0 0 (AA b0)) (F0 m pc ls [.int v]) :=
  W.iret C.1 C.2.1 hr (fun t ht hWm => ⟨⟨v, σ, rfl, hq, by rw [ht]; exact hW, va_K.moved hWm.alike C.2.2.2.2.2.1⟩, hS.F ht⟩) hS.2.2 hdg (hlocks := C.2.2.2.2.2.2.1)
theorem r_z {Qx : Int32 → Mem → Prop} (C : Cx p s m args meth c cc own nL D tc b0) (hr : meth.sig.returnType = some .boolean) (hW : Wd G D tc b0 σ H) (hS : va_S (AA b0) s.heap H locs) {v : Int32} (hz : bz v) (hq : Qx v σ) (hdg : decode cc pc = .ok (.ireturn, 1)) : W p l e R s m args below meth c H locs 0 0 (MQ below (va_Qi Qx (fun u t => Pw G D tc b0 u t) (AA b0)) args s 0 0 (AA b0)) (F0 m pc ls [.int v]) :=
  W.zret C.1 C.2.1 hr (bz_n hz) (fun t ht hWm => ⟨⟨v, σ, rfl, hq, by rw [ht]; exact hW, va_K.moved hWm.alike C.2.2.2.2.2.1⟩, hS.F ht⟩) hS.2.2 hdg (hlocks := C.2.2.2.2.2.2.1)
theorem r_l {Qx : Int64 → Mem → Prop} (C : Cx p s m args meth c cc own nL D tc b0) (hr : meth.sig.returnType = some .long) (hW : Wd G D tc b0 σ H) (hS : va_S (AA b0) s.heap H locs) {v : Int64} (hq : Qx v σ) (hdg : decode cc pc = .ok (.lreturn, 1)) : W p l e R s m args below meth c H locs 0 0 (MQ below (va_Ql Qx (fun u t => Pw G D tc b0 u t) (AA b0)) args s 0 0 (AA b0)) (F0 m pc ls [.long v]) :=
  W.lret C.1 C.2.1 hr (fun t ht hWm => ⟨⟨v, σ, rfl, hq, by rw [ht]; exact hW, va_K.moved hWm.alike C.2.2.2.2.2.1⟩, hS.F ht⟩) hS.2.2 hdg (hlocks := C.2.2.2.2.2.2.1)
theorem r_v {Qx : Mem → Prop} (C : Cx p s m args meth c cc own nL D tc b0) (hr : meth.sig.returnType = none) (hW : Wd G D tc b0 σ H) (hS : va_S (AA b0) s.heap H locs) (hq : Qx σ) (hdg : decode cc pc = .ok (.return_, 1)) : W p l e R s m args below meth c H locs 0 0 (MQ below (va_Qv Qx (fun u t => Pw G D tc b0 u t) (AA b0)) args s 0 0 (AA b0)) (F0 m pc ls []) :=
  W.vret C.1 C.2.1 hr (fun t ht hWm => ⟨⟨σ, rfl, hq, by rw [ht]; exact hW, va_K.moved hWm.alike C.2.2.2.2.2.1⟩, hS.F ht⟩) hS.2.2 hdg (hlocks := C.2.2.2.2.2.2.1)
theorem r_r {Qx : Nat → Mem → Prop} (C : Cx p s m args meth c cc own nL D tc b0) {E : String} (hr : meth.sig.returnType = some (.object E)) (hW : Wd G D tc b0 σ H) (hS : va_S (AA b0) s.heap H locs) {v : Nat} (hq : Qx v σ) (hdg : decode cc pc = .ok (.areturn, 1)) : W p l e R s m args below meth c H locs 0 0 (MQ below (va_Qq (fun o u => ∃ r, o = ro b0 r ∧ Qx r u) (fun u t => Pw G D tc b0 u t) (AA b0)) args s 0 0 (AA b0)) (F0 m pc ls [rv b0 v]) :=
  W.aret C.1 C.2.1 hr (Or.inl ⟨E, rfl⟩) (va_rf_or _) (fun t ht hWm => ⟨⟨ro b0 v, σ, rfl, ⟨v, rfl, hq⟩, by rw [ht]; exact hW, va_K.moved hWm.alike C.2.2.2.2.2.1⟩, hS.F ht⟩) hS.2.2 hdg (hlocks := C.2.2.2.2.2.2.1)
end XC
/-! the entry -/
def avs : List Vl → List (Option Vl)
  | [] => []
  | .inl x :: as => some (.inl x) :: avs as
  | .inr (.inl x) :: as => some (.inr (.inl x)) :: none :: avs as
  | .inr (.inr r) :: as => some (.inr (.inr r)) :: avs as
theorem avs_in (b0 : Nat) : ∀ (as : List Vl) (i j : Nat) (v : Vl), (avs as)[j]? = some (some v) → (i + j, vv b0 v) ∈ lv_args i (as.map (vv b0))
  | [], i, j, v, h => by simp [avs] at h
  | .inl x :: as, i, 0, v, h => by
    cases h
    exact List.mem_cons_self
  | .inl x :: as, i, j + 1, v, h => by
    have h2 := avs_in b0 as (i + 1) j v h
    rw [show i + 1 + j = i + (j + 1) by omega] at h2
    exact List.mem_cons_of_mem _ h2
  | .inr (.inl x) :: as, i, 0, v, h => by
    cases h
    exact List.mem_cons_self
  | .inr (.inl x) :: as, i, 1, v, h => by cases h
  | .inr (.inl x) :: as, i, j + 2, v, h => by
    have h2 := avs_in b0 as (i + 2) j v h
    rw [show i + 2 + j = i + (j + 2) by omega] at h2
    exact List.mem_cons_of_mem _ h2
  | .inr (.inr r) :: as, i, 0, v, h => by
    cases h
    exact List.mem_cons_self
  | .inr (.inr r) :: as, i, j + 1, v, h => by
    have h2 := avs_in b0 as (i + 1) j v h
    rw [show i + 1 + j = i + (j + 1) by omega] at h2
    refine List.mem_cons_of_mem _ ?_
    show _ ∈ lv_args (if (rv b0 r).category = 2 then i + 2 else i + 1) _
    rw [rv_cat, if_neg (by decide)]
    exact h2
def wA : List Vl → Nat
  | [] => 0
  | .inl _ :: as => 1 + wA as
  | .inr (.inl _) :: as => 2 + wA as
  | .inr (.inr _) :: as => 1 + wA as
theorem wA_len (b0 : Nat) : ∀ as : List Vl, (lg_sl (as.map (vv b0))).length = wA as
  | [] => rfl
  | .inl x :: as => by
    have h := wA_len b0 as
    simp only [lg_sl, List.map_cons, List.flatMap_cons, List.length_append, wA] at h ⊢
    rw [h]
    rfl
  | .inr (.inl x) :: as => by
    have h := wA_len b0 as
    simp only [lg_sl, List.map_cons, List.flatMap_cons, List.length_append, wA] at h ⊢
    rw [h]
    rfl
  | .inr (.inr r) :: as => by
    have h := wA_len b0 as
    simp only [lg_sl, List.map_cons, List.flatMap_cons, List.length_append, wA] at h ⊢
    rw [h]
    show (if (rv b0 r).category = 2 then [Slot.val (rv b0 r), Slot.second] else [Slot.val (rv b0 r)]).length + _ = _
    rw [rv_cat, if_neg (by decide)]
    rfl
theorem hL_entry (b0 : Nat) (as : List Vl) (nL : Nat) (vs : List (Option Vl)) (hlen : wA as ≤ nL) (hvs : ∀ (i : Nat) (v : Vl), vs[i]? = some (some v) → (avs as)[i]? = some (some v)) (m : MethodId) : ∃ ls, entryFrame m (as.map (vv b0)).toArray nL = F0 m 0 ls [] ∧ hL b0 ls nL vs := by
  refine ⟨_, lg_entry_eq m (as.map (vv b0)) nL, ?_⟩
  have h := lv_entry (as.map (vv b0)) (n := nL) (by rw [wA_len]; exact hlen)
  refine ⟨h.1, h.2.1, fun i v hv => ?_⟩
  have h2 := avs_in b0 as 0 i v (hvs i v hv)
  rw [Nat.zero_add] at h2
  exact h.2.2 _ h2
theorem pad_ok (vs : List (Option Vl)) (n i : Nat) (v : Vl) (h : (vs ++ List.replicate n none)[i]? = some (some v)) : vs[i]? = some (some v) := by
  by_cases hi : i < vs.length
  · rw [List.getElem?_append_left hi] at h
    exact h
  · rw [List.getElem?_append_right (by omega)] at h
    have h2 := List.mem_of_getElem? h
    rw [List.mem_replicate] at h2
    exact absurd h2.2 (by intro h; cases h)
section XE
variable {l : Launch} {y : MethodName} {bytes : ByteArray} {maxL : Nat} {ret : Option FieldType} {rm : Room} {G : Lay} {D : va_G} {tc : Nat → ClassId} {b0 : Nat} {σ : Mem}
/-- a method's contract out of the walk of its body -/
theorem x_entry {Qc : Array Value → State → Outcome → State → Prop} (as : List Vl) (k : Nat) (hy : plainName y.cls = true) (hlen : wA as ≤ maxL) (body : ∀ (p : Program) (e : Env) (s : State) (m : MethodId) (args : Array Value) (below : List Frame) (meth : Method) (c : Code) (ls : Array Slot), Cx p s m args meth c bytes y.cls maxL D tc b0 → meth.sig.returnType = ret → Wd G D tc b0 σ s.heap → hL b0 ls maxL (avs as ++ List.replicate k none) → W p l e rm s m args below meth c s.heap [] 0 0 (MQ below Qc args s 0 0 (AA b0)) (F0 m 0 ls [])) : Met l y (.code y bytes maxL ret :: gtbl) rm (va_Pc (as.map (vv b0)) (Pv G D tc b0 σ)) Qc 0 0 (AA b0) := by
  refine Met.ofW (cc := bytes) (maxL := maxL) (ret := ret) hy rfl ?_
  intro p e s m args below meth c s₁ B hml hv
  obtain ⟨hargs, ⟨hW, hK⟩, hSx⟩ := hv
  have hts := atoms_spec (ws := .code y bytes maxL ret :: gtbl) B.pre
  obtain ⟨ls, he, hl⟩ := hL_entry b0 as maxL (avs as ++ List.replicate k none) hlen (fun i v h => pad_ok _ _ _ _ h) m
  have hb := body p e s m args below meth c ls ⟨B.exec, B.bytes, hml, findClass_of_methodNamed B.named, fun w h => hts w (List.mem_cons_of_mem _ h), hK, B.notSynchronized, hSx⟩ B.returns hW hl
  rw [← he, ← hargs] at hb
  exact hb
end XE
