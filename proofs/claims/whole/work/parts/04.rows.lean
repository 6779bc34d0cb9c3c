/-! what lies outside the world and is never written: the keywords, the signs' text, a switch of the JDK's -/
def kwv : List Int64 := [427020088179, 28518, 7823737, 7302757, 117026742756708, 7305070, 29807, 1818850164, 25209, 1836413812, 478745093476, 129117075895653, 512853240933, 495756340332, 1718378855, 1752133483, 115923103347316, 109299962373989, 512852587109, 28530, 6385252, 7237492, 435627783289]
def sgb : List Int32 := [123, 125, 40, 41, 58, 59, 44, 46, 61, 60, 62, 43, 45]
def Sx (b0 : Nat) (U : State) (H : Heap) : Prop := ∃ (t : Nat) (adK adV : Nat → Nat), va_Z "BeeRegister$Tokens" "KEYWORDS" "[J" (.ref t) (AA b0) U H ∧ va_T .long t 23 (fun j => .long (kwv.getD j 0)) (AA b0) U H ∧ vk_S 1 [13] [sgb] adK adV (AA b0) U H ∧ vk_R "BeeRegister$Tokens" 59 "{}():;,.=<>+-" (adK 0) U ∧ va_Z "java/lang/String" "COMPACT_STRINGS" "Z" (.int 1) (AA b0) U H
theorem Sx.go {b0 : Nat} {s U : State} {H : Heap} (h : Sx b0 s s.heap) (hW : s.WarmedH U.vm) (hq : ∀ a : Nat, a < s.heap.size → ¬ AA b0 a → H[a]? = s.heap[a]?) : Sx b0 U H := by
  obtain ⟨t, adK, adV, h1, h2, h3, h4, h5⟩ := h
  exact ⟨t, adK, adV, (h1.moved hW.alike).kept hq, (h2.moved hW.alike).kept hq, (h3.moved hW.alike).kept hq, h4.warm hW, (h5.moved hW.alike).kept hq⟩
theorem Sx.same {b0 : Nat} {u U : State} {H : Heap} (h : Sx b0 u H) (hv : U.vm = u.vm) : Sx b0 U H := by
  obtain ⟨t, adK, adV, h1, h2, h3, h4, h5⟩ := h
  have ha : u.vm.Alike U.vm := by rw [hv]; exact Vm.Alike.refl _
  exact ⟨t, adK, adV, h1.moved ha, h2.moved ha, h3.moved ha, h4.same hv, h5.moved ha⟩
/-- what stays fixed in a method: the machine, its code, its class, the tables' words, the classes, no lock -/
def Cx (p : Program) (s : State) (m : MethodId) (args : Array Value) (meth : Method) (c : Code) (cc : ByteArray) (own : String) (nL : Nat) (D : va_G) (tc : Nat → ClassId) (b0 : Nat) : Prop :=
  p.tables.exec = Jvm.exec ∧ c.code = cc ∧ c.maxLocals = nL ∧ s.vm.findClass own = some m.cls ∧ (∀ w ∈ gtbl, w.before args s = true) ∧ va_K D vwCl (tys tc) s ∧ meth.locks = false ∧ Sx b0 s s.heap
/-- the locals that are known, by place -/
def hL (b0 : Nat) (ls : Array Slot) (nL : Nat) (vs : List (Option Vl)) : Prop := ls.size = nL ∧ lv_wf ls ∧ ∀ (i : Nat) (v : Vl), vs[i]? = some (some v) → ls[i]? = some (.val (vv b0 v))
def toL (b0 : Nat) (vs : List (Option Vl)) : List (Nat × Value) := (List.range vs.length).filterMap (fun j => (vs[j]?.join).map (fun w => (j, vv b0 w)))
theorem hL.has {b0 : Nat} {ls : Array Slot} {nL : Nat} {vs : List (Option Vl)} (h : hL b0 ls nL vs) : lv_has ls nL (toL b0 vs) := by
  refine ⟨h.1, h.2.1, fun q hq => ?_⟩
  obtain ⟨j, -, hj⟩ := List.mem_filterMap.mp hq
  cases hv : vs[j]? with
  | none => rw [hv] at hj; cases hj
  | some o =>
    cases o with
    | none => rw [hv] at hj; cases hj
    | some w =>
      rw [hv] at hj
      cases hj
      exact h.2.2 j w hv
theorem toL_mem {b0 j : Nat} {vs : List (Option Vl)} {w : Vl} (h : vs[j]? = some (some w)) : (j, vv b0 w) ∈ toL b0 vs := by
  refine List.mem_filterMap.mpr ⟨j, List.mem_range.mpr (List.getElem?_eq_some_iff.mp h).1, ?_⟩
  rw [h]
  rfl
/-- at the place ahead of i stands no long -/
def okp (vs : List (Option Vl)) (i : Nat) : Bool := match i with
  | 0 => true
  | j + 1 => match vs[j]? with
    | some (some (.inr (.inl _))) => false
    | _ => true
theorem okp_cat {b0 : Nat} {vs : List (Option Vl)} {i j : Nat} {w : Vl} (h : okp vs i = true) (hj : j + 1 = i) (hv : vs[j]? = some (some w)) : (vv b0 w).category = 1 := by
  subst hj
  simp only [okp, hv] at h
  rcases w with x | x | r
  · rfl
  · cases h
  · exact rv_cat b0 r
theorem hL.of1 {b0 : Nat} {ls' : Array Slot} {nL i : Nat} {vs : List (Option Vl)} {v : Vl} (hp : okp vs i = true) (h' : lv_has ls' nL ((i, vv b0 v) :: (toL b0 vs).filter (fun q => !(q.1 == i) && !(q.1 + 1 == i && q.2.category == 2)))) : hL b0 ls' nL (vs.set i (some v)) := by
  refine ⟨h'.1, h'.2.1, fun j w hj => ?_⟩
  rw [List.getElem?_set] at hj
  by_cases hij : i = j
  · subst hij
    rw [if_pos rfl] at hj
    by_cases hlt : i < vs.length
    · rw [if_pos hlt] at hj
      cases hj
      exact h'.2.2 (i, vv b0 v) List.mem_cons_self
    · rw [if_neg hlt] at hj
      cases hj
  · rw [if_neg hij] at hj
    refine h'.2.2 (j, vv b0 w) (List.mem_cons_of_mem _ (List.mem_filter.mpr ⟨toL_mem hj, ?_⟩))
    by_cases h1 : j + 1 = i
    · have h2 := okp_cat (b0 := b0) hp h1 hj
      simp [h2]
      omega
    · simp [h1]
      omega
theorem hL.of2 {b0 : Nat} {ls' : Array Slot} {nL i : Nat} {vs : List (Option Vl)} {v : Vl} (hp : okp vs i = true) (h' : lv_has ls' nL ((i, vv b0 v) :: (toL b0 vs).filter (fun q => !(q.1 == i) && (!(q.1 == i + 1) && !(q.1 + 1 == i && q.2.category == 2))))) : hL b0 ls' nL ((vs.set i (some v)).set (i + 1) none) := by
  refine ⟨h'.1, h'.2.1, fun j w hj => ?_⟩
  rw [List.getElem?_set] at hj
  by_cases hij1 : i + 1 = j
  · rw [if_pos hij1] at hj
    by_cases hlt : i + 1 < (vs.set i (some v)).length
    · rw [if_pos hlt] at hj
      cases hj
    · rw [if_neg hlt] at hj
      cases hj
  rw [if_neg hij1, List.getElem?_set] at hj
  by_cases hij : i = j
  · subst hij
    rw [if_pos rfl] at hj
    by_cases hlt : i < vs.length
    · rw [if_pos hlt] at hj
      cases hj
      exact h'.2.2 (i, vv b0 v) List.mem_cons_self
    · rw [if_neg hlt] at hj
      cases hj
  · rw [if_neg hij] at hj
    refine h'.2.2 (j, vv b0 w) (List.mem_cons_of_mem _ (List.mem_filter.mpr ⟨toL_mem hj, ?_⟩))
    by_cases h1 : j + 1 = i
    · have h2 := okp_cat (b0 := b0) hp h1 hj
      simp [h2]
      omega
    · simp [h1]
      omega
/-- fewer locals known -/
theorem hL.less {b0 : Nat} {ls : Array Slot} {nL : Nat} {vs vs' : List (Option Vl)} (h : hL b0 ls nL vs) (hs : ∀ (i : Nat) (v : Vl), vs'[i]? = some (some v) → vs[i]? = some (some v)) : hL b0 ls nL vs' := ⟨h.1, h.2.1, fun i v hv => h.2.2 i v (hs i v hv)⟩
def lessB : List (Option Vl) → List Bool → List (Option Vl)
  | v :: vs, true :: bs => v :: lessB vs bs
  | _ :: vs, false :: bs => none :: lessB vs bs
  | _, _ => []
theorem lessB_ok : ∀ (vs : List (Option Vl)) (bs : List Bool) (i : Nat) (v : Vl), (lessB vs bs)[i]? = some (some v) → vs[i]? = some (some v)
  | [], bs, i, v, h => by cases bs <;> simp [lessB] at h
  | w :: vs, [], i, v, h => by simp [lessB] at h
  | w :: vs, true :: bs, 0, v, h => h
  | w :: vs, false :: bs, 0, v, h => by simp [lessB] at h
  | w :: vs, true :: bs, i + 1, v, h => by
    simp only [lessB, List.getElem?_cons_succ] at h ⊢
    exact lessB_ok vs bs i v h
  | w :: vs, false :: bs, i + 1, v, h => by
    simp only [lessB, List.getElem?_cons_succ] at h ⊢
    exact lessB_ok vs bs i v h
theorem hL.keep {b0 : Nat} {ls : Array Slot} {nL : Nat} {vs vs' : List (Option Vl)} (h : hL b0 ls nL vs) (bs : List Bool) (hs : lessB vs bs = vs') : hL b0 ls nL vs' := h.less (fun i v hv => lessB_ok vs bs i v (by rw [hs]; exact hv))
section XR
variable {p : Program} {l : Launch} {e : Env} {R : Room} {s : State} {m : MethodId} {args : Array Value} {below : List Frame} {meth : Method} {c : Code} {H : Heap} {locs : List Loc} {cells slots : Nat} {Q : State → Prop}
variable {D : va_G} {tc : Nat → ClassId} {b0 : Nat} {cc : ByteArray} {own : String} {nL pc : Nat} {ls : Array Slot} {rest : List Value} {vs : List (Option Vl)} {σ : Mem} {G : Lay}
theorem x_iload_n (C : Cx p s m args meth c cc own nL D tc b0) (hl : hL b0 ls nL vs) {k : Fin 4} {x : Int32} (hdg : decode cc pc = .ok (.iload_n k, 1)) (hv : vs[(k : Nat)]? = some (some (.inl x))) (kk : W p l e R s m args below meth c H locs cells slots Q (F0 m (pc + 1) ls (.int x :: rest))) : W p l e R s m args below meth c H locs cells slots Q (F0 m pc ls rest) := lv_iload_n C.1 C.2.1 hdg rfl (hl.2.2 _ _ hv) kk
theorem x_iload (C : Cx p s m args meth c cc own nL D tc b0) (hl : hL b0 ls nL vs) {i : Nat} {x : Int32} (hdg : decode cc pc = .ok (.iload i, 2)) (hv : vs[i]? = some (some (.inl x))) (kk : W p l e R s m args below meth c H locs cells slots Q (F0 m (pc + 2) ls (.int x :: rest))) : W p l e R s m args below meth c H locs cells slots Q (F0 m pc ls rest) := lv_iload C.1 C.2.1 hdg (hl.2.2 _ _ hv) kk
theorem x_lload_n (C : Cx p s m args meth c cc own nL D tc b0) (hl : hL b0 ls nL vs) {k : Fin 4} {x : Int64} (hdg : decode cc pc = .ok (.lload_n k, 1)) (hv : vs[(k : Nat)]? = some (some (.inr (.inl x)))) (kk : W p l e R s m args below meth c H locs cells slots Q (F0 m (pc + 1) ls (.long x :: rest))) : W p l e R s m args below meth c H locs cells slots Q (F0 m pc ls rest) := lv_lload_n C.1 C.2.1 hdg rfl (hl.2.2 _ _ hv) kk
theorem x_lload (C : Cx p s m args meth c cc own nL D tc b0) (hl : hL b0 ls nL vs) {i : Nat} {x : Int64} (hdg : decode cc pc = .ok (.lload i, 2)) (hv : vs[i]? = some (some (.inr (.inl x)))) (kk : W p l e R s m args below meth c H locs cells slots Q (F0 m (pc + 2) ls (.long x :: rest))) : W p l e R s m args below meth c H locs cells slots Q (F0 m pc ls rest) := lv_lload C.1 C.2.1 hdg (hl.2.2 _ _ hv) kk
theorem x_aload_n (C : Cx p s m args meth c cc own nL D tc b0) (hl : hL b0 ls nL vs) {k : Fin 4} {r : Nat} (hdg : decode cc pc = .ok (.aload_n k, 1)) (hv : vs[(k : Nat)]? = some (some (.inr (.inr r)))) (kk : W p l e R s m args below meth c H locs cells slots Q (F0 m (pc + 1) ls (rv b0 r :: rest))) : W p l e R s m args below meth c H locs cells slots Q (F0 m pc ls rest) := by
  have h := hl.2.2 _ _ hv
  by_cases hr : r = 0
  · subst hr
    exact lv_aload_nN C.1 C.2.1 hdg rfl h kk
  · have h2 : ls[(k : Nat)]? = some (.val (.ref (b0 + r))) := by rw [h]; show some (Slot.val (rv b0 r)) = _; rw [rv_ref hr]
    rw [rv_ref hr] at kk
    exact lv_aload_n C.1 C.2.1 hdg rfl h2 kk
theorem x_aload (C : Cx p s m args meth c cc own nL D tc b0) (hl : hL b0 ls nL vs) {i : Nat} {r : Nat} (hdg : decode cc pc = .ok (.aload i, 2)) (hv : vs[i]? = some (some (.inr (.inr r)))) (kk : W p l e R s m args below meth c H locs cells slots Q (F0 m (pc + 2) ls (rv b0 r :: rest))) : W p l e R s m args below meth c H locs cells slots Q (F0 m pc ls rest) := by
  have h := hl.2.2 _ _ hv
  by_cases hr : r = 0
  · subst hr
    exact lv_aloadN C.1 C.2.1 hdg h kk
  · have h2 : ls[i]? = some (.val (.ref (b0 + r))) := by rw [h]; show some (Slot.val (rv b0 r)) = _; rw [rv_ref hr]
    rw [rv_ref hr] at kk
    exact lv_aload C.1 C.2.1 hdg h2 kk
theorem x_istore_n (C : Cx p s m args meth c cc own nL D tc b0) (hl : hL b0 ls nL vs) {k : Fin 4} {x : Int32} (hdg : decode cc pc = .ok (.istore_n k, 1)) (hn : (k : Nat) < nL) (hp : okp vs k = true) (kk : ∀ ls' : Array Slot, hL b0 ls' nL (vs.set k (some (.inl x))) → W p l e R s m args below meth c H locs cells slots Q (F0 m (pc + 1) ls' rest)) : W p l e R s m args below meth c H locs cells slots Q (F0 m pc ls (.int x :: rest)) := lv_istore_n C.1 C.2.1 hdg rfl hl.has hn rfl (fun ls' h' => kk ls' (hL.of1 (v := .inl x) hp h'))
theorem x_istore (C : Cx p s m args meth c cc own nL D tc b0) (hl : hL b0 ls nL vs) {i : Nat} {x : Int32} (hdg : decode cc pc = .ok (.istore i, 2)) (hn : i < nL) (hp : okp vs i = true) (kk : ∀ ls' : Array Slot, hL b0 ls' nL (vs.set i (some (.inl x))) → W p l e R s m args below meth c H locs cells slots Q (F0 m (pc + 2) ls' rest)) : W p l e R s m args below meth c H locs cells slots Q (F0 m pc ls (.int x :: rest)) := lv_istore C.1 C.2.1 hdg hl.has hn rfl (fun ls' h' => kk ls' (hL.of1 (v := .inl x) hp h'))
theorem x_lstore_n (C : Cx p s m args meth c cc own nL D tc b0) (hl : hL b0 ls nL vs) {k : Fin 4} {x : Int64} (hdg : decode cc pc = .ok (.lstore_n k, 1)) (hn : (k : Nat) + 1 < nL) (hp : okp vs k = true) (kk : ∀ ls' : Array Slot, hL b0 ls' nL ((vs.set k (some (.inr (.inl x)))).set (k + 1) none) → W p l e R s m args below meth c H locs cells slots Q (F0 m (pc + 1) ls' rest)) : W p l e R s m args below meth c H locs cells slots Q (F0 m pc ls (.long x :: rest)) := lv_lstore_n C.1 C.2.1 hdg rfl hl.has hn rfl (fun ls' h' => kk ls' (hL.of2 (v := .inr (.inl x)) hp h'))
theorem x_lstore (C : Cx p s m args meth c cc own nL D tc b0) (hl : hL b0 ls nL vs) {i : Nat} {x : Int64} (hdg : decode cc pc = .ok (.lstore i, 2)) (hn : i + 1 < nL) (hp : okp vs i = true) (kk : ∀ ls' : Array Slot, hL b0 ls' nL ((vs.set i (some (.inr (.inl x)))).set (i + 1) none) → W p l e R s m args below meth c H locs cells slots Q (F0 m (pc + 2) ls' rest)) : W p l e R s m args below meth c H locs cells slots Q (F0 m pc ls (.long x :: rest)) := lv_lstore C.1 C.2.1 hdg hl.has hn rfl (fun ls' h' => kk ls' (hL.of2 (v := .inr (.inl x)) hp h'))
theorem x_astore_n (C : Cx p s m args meth c cc own nL D tc b0) (hl : hL b0 ls nL vs) {k : Fin 4} {r : Nat} (hdg : decode cc pc = .ok (.astore_n k, 1)) (hn : (k : Nat) < nL) (hp : okp vs k = true) (kk : ∀ ls' : Array Slot, hL b0 ls' nL (vs.set k (some (.inr (.inr r)))) → W p l e R s m args below meth c H locs cells slots Q (F0 m (pc + 1) ls' rest)) : W p l e R s m args below meth c H locs cells slots Q (F0 m pc ls (rv b0 r :: rest)) := by
  by_cases hr : r = 0
  · subst hr
    exact lv_astore_nN C.1 C.2.1 hdg rfl hl.has hn rfl (fun ls' h' => kk ls' (hL.of1 (v := .inr (.inr 0)) hp h'))
  · have hk : ∀ ls' : Array Slot, lv_has ls' nL (((k : Nat), Value.ref (b0 + r)) :: (toL b0 vs).filter (fun q => !(q.1 == (k : Nat)) && !(q.1 + 1 == (k : Nat) && q.2.category == 2))) → W p l e R s m args below meth c H locs cells slots Q (F0 m (pc + 1) ls' rest) := fun ls' h' => kk ls' (hL.of1 (v := .inr (.inr r)) hp (by show lv_has ls' nL (((k : Nat), rv b0 r) :: _); rw [rv_ref hr]; exact h'))
    rw [rv_ref hr]
    exact lv_astore_n C.1 C.2.1 hdg rfl hl.has hn rfl hk
theorem x_astore (C : Cx p s m args meth c cc own nL D tc b0) (hl : hL b0 ls nL vs) {i : Nat} {r : Nat} (hdg : decode cc pc = .ok (.astore i, 2)) (hn : i < nL) (hp : okp vs i = true) (kk : ∀ ls' : Array Slot, hL b0 ls' nL (vs.set i (some (.inr (.inr r)))) → W p l e R s m args below meth c H locs cells slots Q (F0 m (pc + 2) ls' rest)) : W p l e R s m args below meth c H locs cells slots Q (F0 m pc ls (rv b0 r :: rest)) := by
  by_cases hr : r = 0
  · subst hr
    exact lv_astoreN C.1 C.2.1 hdg hl.has hn rfl (fun ls' h' => kk ls' (hL.of1 (v := .inr (.inr 0)) hp h'))
  · have hk : ∀ ls' : Array Slot, lv_has ls' nL ((i, Value.ref (b0 + r)) :: (toL b0 vs).filter (fun q => !(q.1 == i) && !(q.1 + 1 == i && q.2.category == 2))) → W p l e R s m args below meth c H locs cells slots Q (F0 m (pc + 2) ls' rest) := fun ls' h' => kk ls' (hL.of1 (v := .inr (.inr r)) hp (by show lv_has ls' nL ((i, rv b0 r) :: _); rw [rv_ref hr]; exact h'))
    rw [rv_ref hr]
    exact lv_astore C.1 C.2.1 hdg hl.has hn rfl hk
theorem x_iinc (C : Cx p s m args meth c cc own nL D tc b0) (hl : hL b0 ls nL vs) {i : Nat} {n : Int} {x v : Int32} (hdg : decode cc pc = .ok (.iinc i n, 3)) (hx : vs[i]? = some (some (.inl x))) (hv : Int32.ofInt n = v) (hn : i < nL) (hp : okp vs i = true) (kk : ∀ ls' : Array Slot, hL b0 ls' nL (vs.set i (some (.inl (x + v)))) → W p l e R s m args below meth c H locs cells slots Q (F0 m (pc + 3) ls' rest)) : W p l e R s m args below meth c H locs cells slots Q (F0 m pc ls rest) := by
  subst hv
  obtain ⟨k, hk⟩ := List.getElem?_of_mem (toL_mem (b0 := b0) hx)
  exact lv_iinc C.1 C.2.1 hdg hl.has hk rfl hn rfl (fun ls' h' => kk ls' (hL.of1 (v := .inl (x + Int32.ofInt n)) hp h'))
theorem x_ifnull (C : Cx p s m args meth c cc own nL D tc b0) {r : Nat} {off : Int} {tgt : Nat} (hdg : decode cc pc = .ok (.ifnull off, 3)) (ht : (pc : Int) + off = (tgt : Int)) (kt : r = 0 → W p l e R s m args below meth c H locs cells slots Q (F0 m tgt ls rest)) (kf : ¬ r = 0 → W p l e R s m args below meth c H locs cells slots Q (F0 m (pc + 3) ls rest)) : W p l e R s m args below meth c H locs cells slots Q (F0 m pc ls (rv b0 r :: rest)) := by
  by_cases hr : r = 0
  · have k2 := kt hr
    subst hr
    exact lv_ifnullN C.1 C.2.1 hdg ht k2
  · rw [rv_ref hr]
    exact lv_ifnull C.1 C.2.1 hdg (kf hr)
theorem x_ifnonnull (C : Cx p s m args meth c cc own nL D tc b0) {r : Nat} {off : Int} {tgt : Nat} (hdg : decode cc pc = .ok (.ifnonnull off, 3)) (ht : (pc : Int) + off = (tgt : Int)) (kt : ¬ r = 0 → W p l e R s m args below meth c H locs cells slots Q (F0 m tgt ls rest)) (kf : r = 0 → W p l e R s m args below meth c H locs cells slots Q (F0 m (pc + 3) ls rest)) : W p l e R s m args below meth c H locs cells slots Q (F0 m pc ls (rv b0 r :: rest)) := by
  by_cases hr : r = 0
  · have k2 := kf hr
    subst hr
    exact lv_ifnonnullN C.1 C.2.1 hdg k2
  · rw [rv_ref hr]
    exact lv_ifnonnull C.1 C.2.1 hdg ht (kt hr)
theorem ro_inj {x y : Nat} (h : ro b0 x = ro b0 y) : x = y := by
  unfold ro at h
  by_cases hx : x = 0 <;> by_cases hy : y = 0 <;> simp [hx, hy] at h <;> omega
theorem x_acmpeq (C : Cx p s m args meth c cc own nL D tc b0) {x y : Nat} {off : Int} {tgt : Nat} (hdg : decode cc pc = .ok (.if_acmp .eq off, 3)) (ht : (pc : Int) + off = (tgt : Int)) (kt : x = y → W p l e R s m args below meth c H locs cells slots Q (F0 m tgt ls rest)) (kf : ¬ x = y → W p l e R s m args below meth c H locs cells slots Q (F0 m (pc + 3) ls rest)) : W p l e R s m args below meth c H locs cells slots Q (F0 m pc ls (rv b0 y :: rv b0 x :: rest)) := lv_acmp_eq (rx := ro b0 x) (ry := ro b0 y) C.1 C.2.1 hdg ht (fun h => kt (ro_inj h)) (fun h => kf (fun h2 => h (by rw [h2])))
theorem x_null (C : Cx p s m args meth c cc own nL D tc b0) (hdg : decode cc pc = .ok (.aconst_null, 1)) (k : W p l e R s m args below meth c H locs cells slots Q (F0 m (pc + 1) ls (rv b0 0 :: rest))) : W p l e R s m args below meth c H locs cells slots Q (F0 m pc ls rest) := lv_null C.1 C.2.1 hdg k
end XR
