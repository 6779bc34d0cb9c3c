/-! new cells -/
theorem cel_new {G : Lay} {tc : Nat → ClassId} {b0 t n z b : Nat} {σ : Mem} (h : b ≠ gN G + 1) : cel (gA G t n z) tc b0 (sZ σ (gN G + 1)) b = cel G tc b0 σ b := by
  have e1 : gT (gA G t n z) b = gT G b := if_neg h
  have e2 : gL (gA G t n z) b = gL G b := if_neg h
  have e3 : cel (gA G t n z) tc b0 (sZ σ (gN G + 1)) b = cel (gA G t n z) tc b0 σ b := cel_eq (by funext j; simp [sZ, h]) (by funext j; simp [sZ, h]) (by funext j; simp [sZ, h])
  rw [e3]
  unfold cel fsl con
  rw [e1, e2]
theorem wd_new {G : Lay} {tc : Nat → ClassId} {b0 t n z : Nat} {σ : Mem} : wd (gA G t n z) tc b0 (sZ σ (gN G + 1)) = wd G tc b0 σ ++ [(b0 + (gN G + 1), cel (gA G t n z) tc b0 (sZ σ (gN G + 1)) (gN G + 1))] := by
  unfold wd
  show (List.range (gN G + 1)).map _ = _
  rw [List.range_succ, List.map_append]
  congr 1
  apply List.map_congr_left
  intro i hi
  have := List.mem_range.mp hi
  rw [cel_new (by omega)]
theorem Wd.new {G : Lay} {D : va_G} {tc : Nat → ClassId} {b0 t n z : Nat} {σ : Mem} {H H1 : Heap} (hW : Wd G D tc b0 σ H) (o1 : ∀ q : Nat, q < H.size → H1[q]? = H[q]?) (hnew : va_at D vwCl (b0 + (gN G + 1), cel (gA G t n z) tc b0 (sZ σ (gN G + 1)) (gN G + 1)) H1) : Wd (gA G t n z) D tc b0 (sZ σ (gN G + 1)) H1 := by
  refine ⟨?_, ?_⟩
  · rw [wd_new]
    refine (hW.1.kept (fun k q hq => o1 q.1 ((hW.1 k q hq).lt))).app (fun k q hk => ?_)
    have hz : k < 1 := (List.getElem?_eq_some_iff.mp hk).1
    rw [show k = 0 by omega] at hk
    cases hk
    exact hnew
  · intro a ha
    by_cases h : a = gN G + 1
    · subst h
      exact ⟨by omega, Nat.le_refl _⟩
    · have e1 : gT (gA G t n z) a = gT G a := if_neg h
      rw [e1] at ha
      obtain ⟨h1, h2⟩ := hW.2 a ha
      exact ⟨h1, Nat.le_succ_of_le h2⟩
def nofp (t : FieldType) : Bool := match t with
  | .float => false
  | .double => false
  | _ => true
theorem dv_of {t : FieldType} (h : nofp t = true) : defaultValue t = (match tyk t with | 0 => .int 0 | 1 => .long 0 | _ => .null) := by
  cases t <;> first | rfl | cases h
/-- the words of the nest, and of arrays of our classes -/
def Nx (U : State) : Prop := va_Nw (.methodLinkNest "BeeRegister" 15 ⟨"BeeRegister$Tokens", "<init>", "()V"⟩ "BeeRegister") U ∧ va_Nw (.methodLinkNest "BeeRegister" 31 ⟨"BeeRegister$Question", "<init>", "()V"⟩ "BeeRegister") U ∧ va_Nw (.methodLinkNest "BeeRegister$Schema" 27 ⟨"BeeRegister$Kind", "<init>", "()V"⟩ "BeeRegister") U ∧ va_Nw (.methodLinkNest "BeeRegister$Schema" 28 ⟨"BeeRegister$Member", "<init>", "()V"⟩ "BeeRegister") U ∧ va_AO "BeeRegister$Kind" U ∧ va_AO "BeeRegister$Member" U ∧ va_AO "BeeRegister$Thing" U ∧ va_AO "BeeRegister$Unit" U
theorem Nx.warm {s U : State} (hW : s.WarmedH U.vm) (h : Nx s) : Nx U := by
  obtain ⟨h1, h2, h3, h4, h5, h6, h7, h8⟩ := h
  exact ⟨va_Nw.warmM hW h1, va_Nw.warmM hW h2, va_Nw.warmM hW h3, va_Nw.warmM hW h4, va_AO.moved hW.alike h5, va_AO.moved hW.alike h6, va_AO.moved hW.alike h7, va_AO.moved hW.alike h8⟩
theorem Nx.same {u U : State} (hv : u.vm = U.vm) (h : Nx u) : Nx U := by
  have ha : u.vm.Alike U.vm := by rw [hv]; exact Vm.Alike.refl _
  obtain ⟨h1, h2, h3, h4, h5, h6, h7, h8⟩ := h
  exact ⟨va_Nw.same rfl hv h1, va_Nw.same rfl hv h2, va_Nw.same rfl hv h3, va_Nw.same rfl hv h4, va_AO.moved ha h5, va_AO.moved ha h6, va_AO.moved ha h7, va_AO.moved ha h8⟩
/-- a constructor's contract: mc cells of ms slots come -/
def MC (l : Launch) (y : MethodName) (bytes : ByteArray) (maxL : Nat) (rm : Room) (G : Lay) (D : va_G) (tc : Nat → ClassId) (b0 : Nat) (As : List Value) (σ : Mem) (mc ms : Nat) (Qx : Lay → Mem → Prop) : Prop := Met l y (.code y bytes maxL none :: gtbl) rm (va_Pc As (fun U => Pv G D tc b0 σ U ∧ U.heap.size = b0 + 1 + gN G ∧ Nx U)) (va_Qv (S := Lay × Mem) (fun u => Qx u.1 u.2 ∧ gN u.1 = gN G + mc ∧ gZ u.1 = gZ G + ms) (fun u t => Pw u.1 D tc b0 u.2 t) (AA b0)) mc ms (AA b0)
section XA
variable {p : Program} {l : Launch} {e : Env} {R : Room} {s : State} {m : MethodId} {args : Array Value} {below : List Frame} {meth : Method} {c : Code} {H : Heap} {locs : List Loc} {cells slots : Nat} {Q : State → Prop}
variable {D : va_G} {tc : Nat → ClassId} {b0 nb sb : Nat} {cc : ByteArray} {own : String} {nL pc : Nat} {ls : Array Slot} {rest : List Value} {σ : Mem} {G : Lay}
/-- the count of cells: those at the method's start, those made since -/
abbrev Ct (s : State) (b0 nb sb cells slots : Nat) (G : Lay) : Prop := s.heap.size = b0 + 1 + nb ∧ cells + nb = gN G ∧ slots + sb = gZ G
theorem size_of (hW : Wd G D tc b0 σ H) (hS : va_S (AA b0) s.heap H locs) (hc : Ct s b0 nb sb cells slots G) {T : State} (hT : T.heap = H) (X : Stand p l e R s m args below meth c T locs cells slots) : H.size = b0 + (gN G + 1) := by
  have h1 : T.heap.size ≤ s.heap.size + cells := X.same.2.2.1
  rw [hT] at h1
  have h2 := hS.1
  obtain ⟨h3, h4, -⟩ := hc
  by_cases h0 : gN G = 0
  · omega
  · have hk : (wd G tc b0 σ)[gN G - 1]? = some (b0 + (gN G - 1 + 1), cel G tc b0 σ (gN G - 1 + 1)) := by
      unfold wd
      rw [List.getElem?_map, List.getElem?_range (by omega)]
      rfl
    have h5 : b0 + (gN G - 1 + 1) < H.size := (hW.1 _ _ hk).lt
    omega
theorem Ct.new (hc : Ct s b0 nb sb cells slots G) {t n z : Nat} : Ct s b0 nb sb (cells + 1) (slots + z) (gA G t n z) := by
  obtain ⟨h1, h2, h3⟩ := hc
  have e1 : gN (gA G t n z) = gN G + 1 := rfl
  have e2 : gZ (gA G t n z) = gZ G + z := rfl
  refine ⟨h1, ?_, ?_⟩
  · rw [e1]; omega
  · rw [e2]; omega
theorem va_S.new {A : Nat → Prop} {H0 H H1 : Heap} (hS : va_S A H0 H locs) (hz : H.size ≤ H1.size) (o1 : ∀ q : Nat, q < H.size → H1[q]? = H[q]?) : va_S A H0 H1 locs := ⟨Nat.le_trans hS.1 hz, fun x h1 h2 => (o1 x (Nat.lt_of_lt_of_le h1 hS.1)).trans (hS.2.1 x h1 h2), hS.2.2⟩
set_option maxHeartbeats 400000 in
theorem x_new (C : Cx p s m args meth c cc own nL D tc b0) (hW : Wd G D tc b0 σ H) (hS : va_S (AA b0) s.heap H locs) (hc : Ct s b0 nb sb cells slots G) {t N index : Nat} {Cn : String} {T : u_T} (K : Kl t Cn T N) (hf : ∀ k, k < N → nofp (cty (t + 1) k) = true) (hcl : Cond.classLink own index Cn ∈ gtbl) (hinst : Cond.instantiable Cn N ∈ gtbl) (hini : Cond.initialized Cn ∈ gtbl) (hcells : cells + 1 ≤ R.cells) (hslots : slots + N ≤ R.slots) (hdg : decode cc pc = .ok (.new index, 3)) (kk : ∀ H1 : Heap, Wd (gA G (t + 1) 0 N) D tc b0 (sZ σ (gN G + 1)) H1 → va_S (AA b0) s.heap H1 locs → Ct s b0 nb sb (cells + 1) (slots + N) (gA G (t + 1) 0 N) → W p l e R s m args below meth c H1 locs (cells + 1) (slots + N) Q (F0 m (pc + 3) ls (rv b0 (gN G + 1) :: rest))) : W p l e R s m args below meth c H locs cells slots Q (F0 m pc ls rest) := by
  intro T0 hT X
  have hsz := size_of hW hS hc hT X
  have hKn := C.2.2.2.2.2.1.1 t _ K.1
  refine (?_ : W p l e R s m args below meth c H locs cells slots Q (F0 m pc ls rest)) T0 hT X
  refine W.newcK C.1 C.2.1 C.2.2.2.1 (C.2.2.2.2.1 _ hcl) (C.2.2.2.2.1 _ hinst) (C.2.2.2.2.1 _ hini) rfl hdg hcells hslots hKn.2.1 hsz (fun H1 kC hkC e1 z1 o1 => ?_)
  have hW1 : Wd (gA G (t + 1) 0 N) D tc b0 (sZ σ (gN G + 1)) H1 := by
    refine hW.new (fun q hq => o1 q (hsz ▸ hq)) ?_
    have ht : gT (gA G (t + 1) 0 N) (gN G + 1) = t + 1 := if_pos rfl
    rw [cel_o ht K.2.2.1]
    refine ⟨_, K.1, (u_born (cty (t + 1)) C.2.2.2.2.1 K.2.2.2.1 hKn hkC e1 K.2.2.2.2.1).to (fun j hj => ?_)⟩
    have hg := fsl_get (b0 := b0) (σ := sZ σ (gN G + 1)) ht (by rw [K.2.1]; exact hj)
    rw [dv_of (hf j hj)]
    simp only [vp_V, List.getD_eq_getElem?_getD, hg, Option.getD_some]
    have a1 : mI (sZ σ (gN G + 1)) (gN G + 1) j = 0 := by simp [mI, sZ]
    have a2 : mJ (sZ σ (gN G + 1)) (gN G + 1) j = 0 := by simp [mJ, sZ]
    have a3 : mR (sZ σ (gN G + 1)) (gN G + 1) j = 0 := by simp [mR, sZ]
    unfold sv
    rw [a1, a2, a3]
    generalize tyk (cty (t + 1) j) = q
    match q with
    | 0 => rfl
    | 1 => rfl
    | _ + 2 => rfl
  have hS1 : va_S (AA b0) s.heap H1 locs := hS.new (by rw [z1]; exact (hsz ▸ Nat.le_succ _)) (fun q hq => o1 q (hsz ▸ hq))
  have hk := kk H1 hW1 hS1 hc.new
  rw [rv_ref (Nat.succ_ne_zero _)] at hk
  exact hk
set_option maxHeartbeats 400000 in
theorem x_newa (C : Cx p s m args meth c cc own nL D tc b0) (hW : Wd G D tc b0 σ H) (hS : va_S (AA b0) s.heap H locs) (hc : Ct s b0 nb sb cells slots G) {atype : ArrayType} {ty : FieldType} (hty : newarray.typeOf atype = ty) (harr : Cond.arrayClass ty ∈ gtbl) {code t0 n : Nat} {i : Int32} (hcode : 100 ≤ code) (htys : (tys tc)[t0]? = some (tc code, ty)) (hra : ∀ x, va_RA s x ty → s.vm.findClass ("[" ++ ty.toString) = some x) (hi : ¬ i < 0) (hn : i.toNatClampNeg = n) (hby : n * componentBytes ty ≤ 536870912) (hdef : ∀ cA : ClassId, vp_cell cA (con (gA G code n n) b0 (sZ σ (gN G + 1)) (gN G + 1)) = arrV cA n (fun _ => defaultValue ty)) (hcells : cells + 1 ≤ R.cells) (hslots : slots + n ≤ R.slots) (hdg : decode cc pc = .ok (.newarray atype, 2)) (kk : ∀ H1 : Heap, Wd (gA G code n n) D tc b0 (sZ σ (gN G + 1)) H1 → va_S (AA b0) s.heap H1 locs → Ct s b0 nb sb (cells + 1) (slots + n) (gA G code n n) → W p l e R s m args below meth c H1 locs (cells + 1) (slots + n) Q (F0 m (pc + 2) ls (rv b0 (gN G + 1) :: rest))) : W p l e R s m args below meth c H locs cells slots Q (F0 m pc ls (.int i :: rest)) := by
  subst hty
  intro T0 hT X
  have hsz := size_of hW hS hc hT X
  refine (?_ : W p l e R s m args below meth c H locs cells slots Q (F0 m pc ls (.int i :: rest))) T0 hT X
  refine va_newaK C.1 C.2.1 (C.2.2.2.2.1 _ harr) rfl hdg rfl hi hn hby hcells hslots hsz (fun H1 cA e1 z1 o1 hAr hNm => ?_)
  have hcA : cA = tc code := by
    have h1 := hra _ (C.2.2.2.2.2.1.2 t0 _ htys).2
    exact Option.some.inj (hNm.symm.trans h1)
  subst hcA
  have hW1 : Wd (gA G code n n) D tc b0 (sZ σ (gN G + 1)) H1 := by
    refine hW.new (fun q hq => o1 q (hsz ▸ hq)) ?_
    have ht0 : gT (gA G code n n) (gN G + 1) = code := if_pos rfl
    have ht : gT (gA G code n n) (gN G + 1) = (code - 1) + 1 := by rw [ht0]; omega
    rw [cel_a ht (by omega)]
    show H1[b0 + (gN G + 1)]? = some (vp_cell (tc (code - 1 + 1)) _)
    rw [hdef, e1, show code - 1 + 1 = code by omega]
  have hS1 : va_S (AA b0) s.heap H1 locs := hS.new (by rw [z1]; exact (hsz ▸ Nat.le_succ _)) (fun q hq => o1 q (hsz ▸ hq))
  have hk := kk H1 hW1 hS1 hc.new
  rw [rv_ref (Nat.succ_ne_zero _)] at hk
  exact hk
theorem con_zi {code n : Nat} (h : code < 103) (cA : ClassId) : vp_cell cA (con (gA G code n n) b0 (sZ σ (gN G + 1)) (gN G + 1)) = arrV cA n (fun _ => Value.int 0) := by
  have ht : gT (gA G code n n) (gN G + 1) = code := if_pos rfl
  have hl : gL (gA G code n n) (gN G + 1) = n := if_pos rfl
  rw [con_i (by omega), vp_cell_i, hl]
  congr 1
  funext j
  simp [mI, sZ]
theorem con_zl {n : Nat} (cA : ClassId) : vp_cell cA (con (gA G 103 n n) b0 (sZ σ (gN G + 1)) (gN G + 1)) = arrV cA n (fun _ => Value.long 0) := by
  have ht : gT (gA G 103 n n) (gN G + 1) = 103 := if_pos rfl
  have hl : gL (gA G 103 n n) (gN G + 1) = n := if_pos rfl
  rw [con_l (by omega), vp_cell_l, hl]
  congr 1
  funext j
  simp [mJ, sZ]
theorem con_zr {code n : Nat} (h : 103 < code) (cA : ClassId) : vp_cell cA (con (gA G code n n) b0 (sZ σ (gN G + 1)) (gN G + 1)) = arrV cA n (fun _ => Value.null) := by
  have ht : gT (gA G code n n) (gN G + 1) = code := if_pos rfl
  have hl : gL (gA G code n n) (gN G + 1) = n := if_pos rfl
  rw [con_r (by omega), vp_cell_q, hl]
  congr 1
  funext j
  simp [mR, sZ, ro, va_rf]
set_option maxHeartbeats 400000 in
theorem x_newq (C : Cx p s m args meth c cc own nL D tc b0) (hW : Wd G D tc b0 σ H) (hS : va_S (AA b0) s.heap H locs) (hc : Ct s b0 nb sb cells slots G) {Cn : String} {index : Nat} (hcl : Cond.classLink own index Cn ∈ gtbl) (hover : va_AO Cn s) {code t0 n : Nat} {i : Int32} (hcode : 103 < code) (htys : (tys tc)[t0]? = some (tc code, .object Cn)) (hi : ¬ i < 0) (hn : i.toNatClampNeg = n) (hby : n * 4 ≤ 536870912) (hcells : cells + 1 ≤ R.cells) (hslots : slots + n ≤ R.slots) (hdg : decode cc pc = .ok (.anewarray index, 3)) (kk : ∀ H1 : Heap, Wd (gA G code n n) D tc b0 (sZ σ (gN G + 1)) H1 → va_S (AA b0) s.heap H1 locs → Ct s b0 nb sb (cells + 1) (slots + n) (gA G code n n) → W p l e R s m args below meth c H1 locs (cells + 1) (slots + n) Q (F0 m (pc + 3) ls (rv b0 (gN G + 1) :: rest))) : W p l e R s m args below meth c H locs cells slots Q (F0 m pc ls (.int i :: rest)) := by
  subst hn
  intro T0 hT X
  have hsz := size_of hW hS hc hT X
  refine (?_ : W p l e R s m args below meth c H locs cells slots Q (F0 m pc ls (.int i :: rest))) T0 hT X
  refine W.anew C.1 C.2.1 C.2.2.2.1 (C.2.2.2.2.1 _ hcl) (va_AO.use hover) rfl hdg rfl hi hby hcells hslots (fun cA kA comp f1 f2 f3 f4 => ?_)
  generalize hH1 : H.push ({ cls := cA, slots := Array.replicate i.toNatClampNeg .null, vm := .none } : Cell) = H1
  have z1 : H1.size = H.size + 1 := by rw [← hH1, Array.size_push]
  have e1 : H1[H.size]? = some (arrV cA i.toNatClampNeg (fun _ => .null)) := by rw [← hH1, Array.getElem?_push_size, ← arrV_new]
  have o1 : ∀ q : Nat, q < H.size → H1[q]? = H[q]? := fun q hq => by rw [← hH1, Array.getElem?_push, if_neg (Nat.ne_of_lt hq)]
  have hcA : cA = tc code := by
    obtain ⟨kA', comp', -, -, -, h4⟩ := (C.2.2.2.2.2.1.2 t0 _ htys).2
    exact Option.some.inj (f1.symm.trans h4)
  subst hcA
  have hW1 : Wd (gA G code i.toNatClampNeg i.toNatClampNeg) D tc b0 (sZ σ (gN G + 1)) H1 := by
    refine hW.new o1 ?_
    have ht0 : gT (gA G code i.toNatClampNeg i.toNatClampNeg) (gN G + 1) = code := if_pos rfl
    have ht : gT (gA G code i.toNatClampNeg i.toNatClampNeg) (gN G + 1) = (code - 1) + 1 := by rw [ht0]; omega
    rw [cel_a ht (by omega)]
    show H1[b0 + (gN G + 1)]? = some (vp_cell (tc (code - 1 + 1)) _)
    rw [con_zr hcode, ← hsz, e1, show code - 1 + 1 = code by omega]
  have hS1 : va_S (AA b0) s.heap H1 locs := hS.new (by rw [z1]; exact Nat.le_succ _) o1
  have hk := kk H1 hW1 hS1 hc.new
  rw [rv_ref (Nat.succ_ne_zero _), ← hsz] at hk
  exact hk
theorem x_putFI (C : Cx p s m args meth c cc own nL D tc b0) (hW : Wd G D tc b0 σ H) (hS : va_S (AA b0) s.heap H locs) {t a N k index : Nat} {Cn : String} {T : u_T} (ht : gT G a = t + 1) (K : Kl t Cn T N) (hk : k < N) (hlink : Cond.fieldLink own index (T k).1 (T k).2.1 (T k).2.2.1 ∈ gtbl) (hfin : (T k).2.2.2 = true) (hin : meth.name = "<init>") (hdecl : (T k).1 = own) {v : Int32} (hty : tyk (cty (t + 1) k) = 0) (hn : narrow (cty (t + 1) k) (.int v) = .int v) (hfit : fits (cty (t + 1) k) (.int v) = true) (hdg : decode cc pc = .ok (.putfield index, 3)) (kk : ∀ (H1 : Heap) (locs1 : List Loc), Wd G D tc b0 (sI σ a k v) H1 → va_S (AA b0) s.heap H1 locs1 → W p l e R s m args below meth c H1 locs1 cells slots Q (F0 m (pc + 3) ls rest)) : W p l e R s m args below meth c H locs cells slots Q (F0 m pc ls (.int v :: rv b0 a :: rest)) := by
  have hg := wd_get (tc := tc) (b0 := b0) (σ := σ) hW.2 (gT_ne ht)
  rw [cel_o ht K.2.2.1] at hg
  rw [ref_of hW.2 ht]
  refine va_putF C.1 C.2.1 C.2.2.2.2.1 K.2.2.2.1 (cty (t + 1)) K.2.2.2.2.1 K.2.2.2.2.2 C.2.2.2.1 C.2.2.2.2.2.1 hW.1 (wd_D G tc b0 σ) hS (a - 1) hg K.1 k hk (C.2.2.2.2.1 _ hlink) (fun _ h => h) hfin hin hdecl (K.2.2.2.2.1 k hk) hn hfit (by rw [fsl_len ht, K.2.1]; exact hk) hdg (fun H1 locs1 h1 _ h3 => kk H1 locs1 (hW.put ht ?_ (fun b hb => cel_eq (up2_o hb) rfl rfl) h1) h3)
  rw [cel_o ht K.2.2.1, fsl_set (σ' := sI σ a k v) ht (by unfold sv; rw [hty, mI_s] <;> rfl) (fun j hj => sv_sI hj)]
theorem x_putFR (C : Cx p s m args meth c cc own nL D tc b0) (hW : Wd G D tc b0 σ H) (hS : va_S (AA b0) s.heap H locs) {t a N k index : Nat} {Cn : String} {T : u_T} (ht : gT G a = t + 1) (K : Kl t Cn T N) (hk : k < N) (hlink : Cond.fieldLink own index (T k).1 (T k).2.1 (T k).2.2.1 ∈ gtbl) (hfin : (T k).2.2.2 = true) (hin : meth.name = "<init>") (hdecl : (T k).1 = own) {v : Nat} (hty : tyk (cty (t + 1) k) = 2) (hn : ∀ o, narrow (cty (t + 1) k) (va_rf o) = va_rf o) (hfit : ∀ o, fits (cty (t + 1) k) (va_rf o) = true) (hdg : decode cc pc = .ok (.putfield index, 3)) (kk : ∀ (H1 : Heap) (locs1 : List Loc), Wd G D tc b0 (sR σ a k v) H1 → va_S (AA b0) s.heap H1 locs1 → W p l e R s m args below meth c H1 locs1 cells slots Q (F0 m (pc + 3) ls rest)) : W p l e R s m args below meth c H locs cells slots Q (F0 m pc ls (rv b0 v :: rv b0 a :: rest)) := by
  have hg := wd_get (tc := tc) (b0 := b0) (σ := σ) hW.2 (gT_ne ht)
  rw [cel_o ht K.2.2.1] at hg
  rw [ref_of hW.2 ht]
  refine va_putF C.1 C.2.1 C.2.2.2.2.1 K.2.2.2.1 (cty (t + 1)) K.2.2.2.2.1 K.2.2.2.2.2 C.2.2.2.1 C.2.2.2.2.2.1 hW.1 (wd_D G tc b0 σ) hS (a - 1) hg K.1 k hk (C.2.2.2.2.1 _ hlink) (fun _ h => h) hfin hin hdecl (K.2.2.2.2.1 k hk) (hn _) (hfit _) (by rw [fsl_len ht, K.2.1]; exact hk) hdg (fun H1 locs1 h1 _ h3 => kk H1 locs1 (hW.put ht ?_ (fun b hb => cel_eq rfl rfl (up2_o hb)) h1) h3)
  rw [cel_o ht K.2.2.1, fsl_set (σ' := sR σ a k v) ht (by unfold sv; rw [hty, mR_s] <;> rfl) (fun j hj => sv_sR hj)]
/-- a constructor's end -/
theorem r_c {Qx : Lay → Mem → Prop} {G0 : Lay} {mc ms : Nat} (C : Cx p s m args meth c cc own nL D tc b0) (hr : meth.sig.returnType = none) (hW : Wd G D tc b0 σ H) (hS : va_S (AA b0) s.heap H locs) (hc : Ct s b0 (gN G0) (gZ G0) cells slots G) (hN : gN G = gN G0 + mc) (hZ : gZ G = gZ G0 + ms) (hq : Qx G σ) (hdg : decode cc pc = .ok (.return_, 1)) : W p l e R s m args below meth c H locs cells slots (MQ below (va_Qv (S := Lay × Mem) (fun u => Qx u.1 u.2 ∧ gN u.1 = gN G0 + mc ∧ gZ u.1 = gZ G0 + ms) (fun u t => Pw u.1 D tc b0 u.2 t) (AA b0)) args s mc ms (AA b0)) (F0 m pc ls []) := by
  obtain ⟨-, h2, h3⟩ := hc
  have e1 : cells = mc := by omega
  have e2 : slots = ms := by omega
  subst e1
  subst e2
  exact W.vret C.1 C.2.1 hr (fun t ht hWm => ⟨⟨(G, σ), rfl, ⟨hq, hN, hZ⟩, by rw [ht]; exact hW, va_K.moved hWm.alike C.2.2.2.2.2.1⟩, hS.F ht⟩) hS.2.2 hdg (hlocks := C.2.2.2.2.2.2.1)
/-- Object's own constructor -/
theorem x_obj (C : Cx p s m args meth c cc own nL D tc b0) (hW : Wd G D tc b0 σ H) (hls : ls.size = nL) {r t index : Nat} (ht : gT G r = t + 1) (hl : Cond.methodLink own index objectInit ∈ gtbl) (hi : Cond.instanceMethod objectInit ∈ gtbl) (hcd : Cond.code objectInit ⟨#[0xb1]⟩ 1 none ∈ gtbl) (hdg : decode cc pc = .ok (.invokespecial index, 3)) (hR : 1 ≤ R.frames ∧ 20 ≤ R.locals) (kk : W p l e R s m args below meth c H locs cells slots Q (F0 m (pc + 3) ls [])) : W p l e R s m args below meth c H locs cells slots Q (F0 m pc ls [rv b0 r]) := by
  rw [ref_of hW.2 ht]
  exact W.objInit C.1 C.2.1 C.2.2.2.1 (C.2.2.2.2.1 _ hl) (C.2.2.2.2.1 _ hi) (C.2.2.2.2.1 _ hcd) rfl (by rw [C.2.2.1]; exact hls) rfl hdg hR.1 (by show 2 * 0 + 0 + 12 ≤ _; have := hR.2; omega) kk
variable {y : MethodName} {bytes : ByteArray} {maxL n index mc ms : Nat} {rm : Room} {As st0 : List Value}
/-- what a constructor's call needs of room -/
abbrev Rc (rm R : Room) (maxL cells slots mc ms : Nat) : Prop := rm.cells = mc ∧ rm.slots = ms ∧ (rm.frames + 1 ≤ R.frames ∧ 8 + (maxL + 11) + rm.locals ≤ R.locals) ∧ cells + mc ≤ R.cells ∧ slots + ms ≤ R.slots
/-- a constructor of ours: its words -/
def YI (y : MethodName) (bytes : ByteArray) (maxL n : Nat) : Prop := Cond.instanceMethod y ∈ gtbl ∧ Cond.initialized y.cls ∈ gtbl ∧ Cond.code y bytes maxL none ∈ gtbl ∧ y.name = "<init>" ∧ yOk y n
theorem YI.good (Y : YI y bytes maxL n) : GoodIn gtbl (.code y bytes maxL none :: gtbl) := good_tbl (fun w hw => by
  rcases List.mem_cons.mp hw with rfl | h
  · exact Y.2.2.1
  · exact h)
theorem x_ctor {Qx : Lay → Mem → Prop} (C : Cx p s m args meth c cc own nL D tc b0) (hW : Wd G D tc b0 σ H) (hS : va_S (AA b0) s.heap H locs) (hc : Ct s b0 nb sb cells slots G) (hN : Nx s) {r t : Nat} (hM : MC l y bytes maxL rm G D tc b0 (rv b0 r :: As) σ mc ms Qx) (ht : gT G r = t + 1) (Y : YI y bytes maxL n) (hl : Cond.methodLink own index y ∈ gtbl ∨ ∃ host, va_Nw (.methodLinkNest own index y host) s) (hrm : Rc rm R maxL cells slots mc ms) (hn : As.length = n) (hls : ls.size = nL) (hst : st0 = As.reverse ++ rv b0 r :: rest) (hcat : (rest.map fun v => v.category).sum ≤ 8) (hdg : decode cc pc = .ok (.invokespecial index, 3)) (kk : ∀ (G1 : Lay) (u : Mem) (H1 : Heap) (locs1 : List Loc), Qx G1 u → Wd G1 D tc b0 u H1 → va_S (AA b0) s.heap H1 locs1 → Ct s b0 nb sb (cells + mc) (slots + ms) G1 → W p l e R s m args below meth c H1 locs1 (cells + mc) (slots + ms) Q (F0 m (pc + 3) ls rest)) : W p l e R s m args below meth c H locs cells slots Q (F0 m pc ls st0) := by
  have hr := ref_of (b0 := b0) hW.2 ht
  unfold MC at hM
  rw [hr] at hM hst
  intro T0 hT X
  have hsz := size_of hW hS hc hT X
  refine (?_ : W p l e R s m args below meth c H locs cells slots Q (F0 m pc ls st0)) T0 hT X
  have hp : PreS s H (va_Pc (Value.ref (b0 + r) :: As) (fun U => Pv G D tc b0 σ U ∧ U.heap.size = b0 + 1 + gN G ∧ Nx U)) (Value.ref (b0 + r) :: As) := by
    refine ⟨?_, ?_⟩
    · intro a U g mk q
      exact ⟨q.1, ⟨⟨q.2.1.1.1, va_K.moved (u := U) (U := U.calling g mk a) (Vm.Alike.refl U.vm) q.2.1.1.2⟩, q.2.1.2.same (U := U.calling g mk a) rfl⟩, q.2.2.1, q.2.2.2.same (U := U.calling g mk a) rfl⟩
    · intro U hU hWm
      exact ⟨rfl, ⟨⟨by rw [hU]; exact hW, va_K.moved hWm.alike C.2.2.2.2.2.1⟩, by rw [hU]; exact C.2.2.2.2.2.2.2.go hWm (fun a h1 h2 => hS.2.1 a h1 h2)⟩, by rw [hU, hsz]; omega, hN.warm hWm⟩
  have hrun : va_Run p l e R s m args below meth c H locs cells slots mc ms (F0 m pc ls st0) rest (va_Qv (S := Lay × Mem) (fun u => Qx u.1 u.2 ∧ gN u.1 = gN G + mc ∧ gZ u.1 = gZ G + ms) (fun u t => Pw u.1 D tc b0 u.2 t) (AA b0) (Value.ref (b0 + r) :: As).toArray) (AA b0) := by
    rcases hl with hl | ⟨host, hl⟩
    · exact va_runI (As := As) (rest := rest) ⟨C.1, C.2.1, C.2.2.1, C.2.2.2.1, C.2.2.2.2.1⟩ hM (cwI n C.2.2.2.2.1 Y.good rfl hrm.1 hrm.2.1 (C.2.2.2.2.1 _ Y.2.1) (C.2.2.2.2.1 _ hl) (C.2.2.2.2.1 _ Y.1) Y.2.2.2.1 Y.2.2.2.2 hrm.2.2.1) hp rfl hn hls hst (lv_room hcat) hdg hrm.2.2.2
    · exact va_runIN (As := As) (rest := rest) ⟨C.1, C.2.1, C.2.2.1, C.2.2.2.1, C.2.2.2.2.1⟩ hM ⟨va_cnB n C.2.2.2.2.1 Y.good rfl hrm.1 hrm.2.1 hl (C.2.2.2.2.1 _ Y.2.1) Y.2.2.2.2 hrm.2.2.1, Y.2.2.2.1, C.2.2.2.2.1 _ Y.1⟩ hp rfl hn hls hst (lv_room hcat) hdg hrm.2.2.2
  refine va_callv hrun hS (fun _ _ h => h) (fun _ h => h) (fun u _ H1 locs1 hht _ hq hB _ _ hS1 => ?_)
  have hW1 : Wd u.1 D tc b0 u.2 H1 := hht ▸ hB.1
  refine kk u.1 u.2 H1 locs1 hq.1 hW1 hS1 ⟨hc.1, ?_, ?_⟩
  · have h1 := hq.2.1
    have h2 := hc.2.1
    omega
  · have h1 := hq.2.2
    have h2 := hc.2.2
    omega
end XA
section XEC
variable {l : Launch} {y : MethodName} {bytes : ByteArray} {maxL : Nat} {rm : Room} {G : Lay} {D : va_G} {tc : Nat → ClassId} {b0 : Nat} {σ : Mem}
theorem x_entryC {Qc : Array Value → State → Outcome → State → Prop} {mc ms : Nat} (as : List Vl) (k : Nat) (hy : plainName y.cls = true) (hlen : wA as ≤ maxL) (hnm : y.name = "<init>") (body : ∀ (p : Program) (e : Env) (s : State) (m : MethodId) (args : Array Value) (below : List Frame) (meth : Method) (c : Code) (ls : Array Slot), Cx p s m args meth c bytes y.cls maxL D tc b0 → meth.sig.returnType = none → meth.name = "<init>" → Nx s → Wd G D tc b0 σ s.heap → Ct s b0 (gN G) (gZ G) 0 0 G → hL b0 ls maxL (avs as ++ List.replicate k none) → W p l e rm s m args below meth c s.heap [] 0 0 (MQ below Qc args s mc ms (AA b0)) (F0 m 0 ls [])) : Met l y (.code y bytes maxL none :: gtbl) rm (va_Pc (as.map (vv b0)) (fun U => Pv G D tc b0 σ U ∧ U.heap.size = b0 + 1 + gN G ∧ Nx U)) Qc mc ms (AA b0) := by
  refine Met.ofW (cc := bytes) (maxL := maxL) (ret := none) hy rfl ?_
  intro p e s m args below meth c s₁ B hml hv
  obtain ⟨hargs, ⟨⟨hW, hK⟩, hSx⟩, hsz, hN⟩ := hv
  have hts := atoms_spec (ws := .code y bytes maxL none :: gtbl) B.pre
  have hin : meth.name = "<init>" := by rw [(name_of_methodNamed B.named B.method).1]; exact hnm
  obtain ⟨ls, he, hl⟩ := hL_entry b0 as maxL (avs as ++ List.replicate k none) hlen (fun i v h => pad_ok _ _ _ _ h) m
  have hb := body p e s m args below meth c ls ⟨B.exec, B.bytes, hml, findClass_of_methodNamed B.named, fun w h => hts w (List.mem_cons_of_mem _ h), hK, B.notSynchronized, hSx⟩ B.returns hin hN hW ⟨hsz, Nat.zero_add _, Nat.zero_add _⟩ hl
  rw [← he, ← hargs] at hb
  exact hb
end XEC
