theorem gT_ne {G : Lay} {a t : Nat} (h : gT G a = t + 1) : gT G a ≠ 0 := by omega
theorem ref_of {G : Lay} {b0 a t : Nat} (hw : wfG G) (h : gT G a = t + 1) : rv b0 a = .ref (b0 + a) := rv_ref (by have := (hw a (gT_ne h)).1; omega)
theorem cel_o {G : Lay} {tc : Nat → ClassId} {b0 : Nat} {σ : Mem} {a t : Nat} (h : gT G a = t + 1) (ht : t + 1 < 100) : cel G tc b0 σ a = .inr (t, fsl G b0 σ a) := by
  unfold cel
  rw [if_pos (by omega), h]
  rfl
theorem cel_a {G : Lay} {tc : Nat → ClassId} {b0 : Nat} {σ : Mem} {a t : Nat} (h : gT G a = t + 1) (ht : ¬ t + 1 < 100) : cel G tc b0 σ a = .inl (tc (t + 1), con G b0 σ a) := by
  unfold cel
  rw [if_neg (by omega), h]
theorem con_i {G : Lay} {b0 : Nat} {σ : Mem} {a : Nat} (h : gT G a < 103) : con G b0 σ a = (gL G a, .inl (mI σ a)) := by
  unfold con
  rw [if_pos h]
theorem con_l {G : Lay} {b0 : Nat} {σ : Mem} {a : Nat} (h : gT G a = 103) : con G b0 σ a = (gL G a, .inr (.inl (mJ σ a))) := by
  unfold con
  rw [if_neg (by omega), if_pos h]
theorem con_r {G : Lay} {b0 : Nat} {σ : Mem} {a : Nat} (h : 103 < gT G a) : con G b0 σ a = (gL G a, .inr (.inr (.inr (.inr (fun j => ro b0 (mR σ a j)))))) := by
  unfold con
  rw [if_neg (by omega), if_neg (by omega)]
theorem up2_o {α : Type} {f : Nat → Nat → α} {a k b : Nat} {v : α} (h : b ≠ a) : up2 f a k v b = f b := by
  funext j
  simp [up2, h]
theorem cel_eq {G : Lay} {tc : Nat → ClassId} {b0 : Nat} {σ σ' : Mem} {b : Nat} (h1 : σ'.1 b = σ.1 b) (h2 : σ'.2.1 b = σ.2.1 b) (h3 : σ'.2.2 b = σ.2.2 b) : cel G tc b0 σ' b = cel G tc b0 σ b := by
  unfold cel con fsl
  have e1 : ∀ k, mI σ' b k = mI σ b k := fun k => by unfold mI; rw [h1]
  have e2 : ∀ k, mJ σ' b k = mJ σ b k := fun k => by unfold mJ; rw [h2]
  have e3 : ∀ k, mR σ' b k = mR σ b k := fun k => by unfold mR; rw [h3]
  have e4 : sv b0 σ' (gT G b) b = sv b0 σ (gT G b) b := by
    funext k
    unfold sv
    rw [e1, e2, e3]
  have e5 : mI σ' b = mI σ b := funext e1
  have e6 : mJ σ' b = mJ σ b := funext e2
  have e7 : (fun j => ro b0 (mR σ' b j)) = (fun j => ro b0 (mR σ b j)) := by funext j; rw [e3]
  rw [e4, e5, e6, e7]
theorem fsl_get {G : Lay} {b0 : Nat} {σ : Mem} {a k t : Nat} (h : gT G a = t) (hk : k < cnum t) : (fsl G b0 σ a)[k]? = some (sv b0 σ t a k) := by
  subst h
  unfold fsl
  rw [List.getElem?_map, List.getElem?_range hk]
  rfl
theorem fsl_len {G : Lay} {b0 : Nat} {σ : Mem} {a t : Nat} (h : gT G a = t) : (fsl G b0 σ a).length = cnum t := by
  subst h
  simp [fsl]
theorem fsl_set {G : Lay} {b0 : Nat} {σ σ' : Mem} {a k t : Nat} {v : Value} (h : gT G a = t) (hv : sv b0 σ' t a k = v) (ho : ∀ j, j ≠ k → sv b0 σ' t a j = sv b0 σ t a j) : (fsl G b0 σ a).set k v = fsl G b0 σ' a := by
  subst h
  apply List.ext_getElem?
  intro j
  rw [List.getElem?_set]
  unfold fsl
  simp only [List.getElem?_map, List.length_map, List.length_range]
  by_cases hj : k = j
  · subst hj
    rw [if_pos rfl]
    by_cases hl : k < cnum (gT G a)
    · rw [if_pos hl, List.getElem?_range hl]
      show _ = some (sv b0 σ' (gT G a) a k)
      rw [hv]
    · rw [if_neg hl, List.getElem?_eq_none (by simp; omega)]
      rfl
  · rw [if_neg hj]
    by_cases hl : j < cnum (gT G a)
    · rw [List.getElem?_range hl]
      show some (sv b0 σ (gT G a) a j) = some (sv b0 σ' (gT G a) a j)
      rw [ho j (fun h => hj h.symm)]
    · rw [List.getElem?_eq_none (by simp; omega)]
      rfl
theorem sv_sI {b0 : Nat} {σ : Mem} {t a k j : Nat} {v : Int32} (h : j ≠ k) : sv b0 (sI σ a k v) t a j = sv b0 σ t a j := by
  unfold sv
  have e : mI (sI σ a k v) a j = mI σ a j := by simp [mI, sI, up2, h]
  rw [e]
  rfl
theorem sv_sJ {b0 : Nat} {σ : Mem} {t a k j : Nat} {v : Int64} (h : j ≠ k) : sv b0 (sJ σ a k v) t a j = sv b0 σ t a j := by
  unfold sv
  have e : mJ (sJ σ a k v) a j = mJ σ a j := by simp [mJ, sJ, up2, h]
  rw [e]
  rfl
theorem sv_sR {b0 : Nat} {σ : Mem} {t a k j v : Nat} (h : j ≠ k) : sv b0 (sR σ a k v) t a j = sv b0 σ t a j := by
  unfold sv
  have e : mR (sR σ a k v) a j = mR σ a j := by simp [mR, sR, up2, h]
  rw [e]
  rfl
theorem mI_s {σ : Mem} {a k : Nat} {v : Int32} : mI (sI σ a k v) a k = v := by simp [mI, sI, up2]
theorem mJ_s {σ : Mem} {a k : Nat} {v : Int64} : mJ (sJ σ a k v) a k = v := by simp [mJ, sJ, up2]
theorem mR_s {σ : Mem} {a k : Nat} {v : Nat} : mR (sR σ a k v) a k = v := by simp [mR, sR, up2]
/-- a class of ours: its place in vwCl, its fields, its words -/
def Kl (t : Nat) (Cn : String) (T : u_T) (N : Nat) : Prop := vwCl[t]? = some (Cn, T, N) ∧ cnum (t + 1) = N ∧ t + 1 < 100 ∧ (∀ w ∈ u_ws Cn T N, w ∈ gtbl) ∧ (∀ k, k < N → parseFieldDescriptor (T k).2.2.1 = some (cty (t + 1) k)) ∧ (∀ a, a < N → ∀ b, b < N → a ≠ b → (T a).2.1 ≠ (T b).2.1)
section XH
variable {p : Program} {l : Launch} {e : Env} {R : Room} {s : State} {m : MethodId} {args : Array Value} {below : List Frame} {meth : Method} {c : Code} {H : Heap} {locs : List Loc} {cells slots : Nat} {Q : State → Prop}
variable {D : va_G} {tc : Nat → ClassId} {b0 : Nat} {cc : ByteArray} {own : String} {nL pc : Nat} {ls : Array Slot} {rest : List Value} {σ : Mem} {G : Lay}
theorem x_get (C : Cx p s m args meth c cc own nL D tc b0) (hW : Wd G D tc b0 σ H) {t a N k index : Nat} {Cn : String} {T : u_T} (ht : gT G a = t + 1) (K : Kl t Cn T N) (hk : k < N) (hlink : Cond.fieldLink own index (T k).1 (T k).2.1 (T k).2.2.1 ∈ gtbl) {v : Value} (hv : sv b0 σ (t + 1) a k = v) (hdg : decode cc pc = .ok (.getfield index, 3)) (kk : W p l e R s m args below meth c H locs cells slots Q (F0 m (pc + 3) ls (v :: rest))) : W p l e R s m args below meth c H locs cells slots Q (F0 m pc ls (rv b0 a :: rest)) := by
  have hg := wd_get (tc := tc) (b0 := b0) (σ := σ) hW.2 (gT_ne ht)
  rw [cel_o ht K.2.2.1] at hg
  rw [ref_of hW.2 ht]
  subst hv
  exact va_get C.1 C.2.1 C.2.2.2.2.1 K.2.2.2.1 C.2.2.2.1 C.2.2.2.2.2.1 hW.1 (a - 1) hg K.1 k hk (C.2.2.2.2.1 _ hlink) (fun _ h => h) (fsl_get ht (by rw [K.2.1]; exact hk)) hdg kk
theorem Wd.put (hW : Wd G D tc b0 σ H) {σ' : Mem} {a t : Nat} {x : va_E} {H1 : Heap} (ht : gT G a = t + 1) (he : cel G tc b0 σ' a = x) (ho : ∀ b, b ≠ a → cel G tc b0 σ' b = cel G tc b0 σ b) (h : va_P D vwCl ((wd G tc b0 σ).set (a - 1) (b0 + a, x)) H1) : Wd G D tc b0 σ' H1 := by
  rw [wd_set hW.2 (gT_ne ht) he ho] at h
  exact ⟨h, hW.2⟩
theorem x_putI (C : Cx p s m args meth c cc own nL D tc b0) (hW : Wd G D tc b0 σ H) (hS : va_S (AA b0) s.heap H locs) {t a N k index : Nat} {Cn : String} {T : u_T} (ht : gT G a = t + 1) (K : Kl t Cn T N) (hk : k < N) (hlink : Cond.fieldLink own index (T k).1 (T k).2.1 (T k).2.2.1 ∈ gtbl) (hfin : (T k).2.2.2 = false) {v : Int32} (hty : tyk (cty (t + 1) k) = 0) (hn : narrow (cty (t + 1) k) (.int v) = .int v) (hfit : fits (cty (t + 1) k) (.int v) = true) (hdg : decode cc pc = .ok (.putfield index, 3)) (kk : ∀ (H1 : Heap) (locs1 : List Loc), Wd G D tc b0 (sI σ a k v) H1 → va_S (AA b0) s.heap H1 locs1 → W p l e R s m args below meth c H1 locs1 cells slots Q (F0 m (pc + 3) ls rest)) : W p l e R s m args below meth c H locs cells slots Q (F0 m pc ls (.int v :: rv b0 a :: rest)) := by
  have hg := wd_get (tc := tc) (b0 := b0) (σ := σ) hW.2 (gT_ne ht)
  rw [cel_o ht K.2.2.1] at hg
  rw [ref_of hW.2 ht]
  refine va_put C.1 C.2.1 C.2.2.2.2.1 K.2.2.2.1 (cty (t + 1)) K.2.2.2.2.1 K.2.2.2.2.2 C.2.2.2.1 C.2.2.2.2.2.1 hW.1 (wd_D G tc b0 σ) hS (a - 1) hg K.1 k hk (C.2.2.2.2.1 _ hlink) (fun _ h => h) hfin (K.2.2.2.2.1 k hk) hn hfit (by rw [fsl_len ht, K.2.1]; exact hk) hdg (fun H1 locs1 h1 _ h3 => kk H1 locs1 (hW.put ht ?_ (fun b hb => cel_eq (up2_o hb) rfl rfl) h1) h3)
  rw [cel_o ht K.2.2.1, fsl_set (σ' := sI σ a k v) ht (by unfold sv; rw [hty, mI_s] <;> rfl) (fun j hj => sv_sI hj)]
theorem x_putJ (C : Cx p s m args meth c cc own nL D tc b0) (hW : Wd G D tc b0 σ H) (hS : va_S (AA b0) s.heap H locs) {t a N k index : Nat} {Cn : String} {T : u_T} (ht : gT G a = t + 1) (K : Kl t Cn T N) (hk : k < N) (hlink : Cond.fieldLink own index (T k).1 (T k).2.1 (T k).2.2.1 ∈ gtbl) (hfin : (T k).2.2.2 = false) {v : Int64} (hty : tyk (cty (t + 1) k) = 1) (hn : narrow (cty (t + 1) k) (.long v) = .long v) (hfit : fits (cty (t + 1) k) (.long v) = true) (hdg : decode cc pc = .ok (.putfield index, 3)) (kk : ∀ (H1 : Heap) (locs1 : List Loc), Wd G D tc b0 (sJ σ a k v) H1 → va_S (AA b0) s.heap H1 locs1 → W p l e R s m args below meth c H1 locs1 cells slots Q (F0 m (pc + 3) ls rest)) : W p l e R s m args below meth c H locs cells slots Q (F0 m pc ls (.long v :: rv b0 a :: rest)) := by
  have hg := wd_get (tc := tc) (b0 := b0) (σ := σ) hW.2 (gT_ne ht)
  rw [cel_o ht K.2.2.1] at hg
  rw [ref_of hW.2 ht]
  refine va_put C.1 C.2.1 C.2.2.2.2.1 K.2.2.2.1 (cty (t + 1)) K.2.2.2.2.1 K.2.2.2.2.2 C.2.2.2.1 C.2.2.2.2.2.1 hW.1 (wd_D G tc b0 σ) hS (a - 1) hg K.1 k hk (C.2.2.2.2.1 _ hlink) (fun _ h => h) hfin (K.2.2.2.2.1 k hk) hn hfit (by rw [fsl_len ht, K.2.1]; exact hk) hdg (fun H1 locs1 h1 _ h3 => kk H1 locs1 (hW.put ht ?_ (fun b hb => cel_eq rfl (up2_o hb) rfl) h1) h3)
  rw [cel_o ht K.2.2.1, fsl_set (σ' := sJ σ a k v) ht (by unfold sv; rw [hty, mJ_s] <;> rfl) (fun j hj => sv_sJ hj)]
theorem x_putR (C : Cx p s m args meth c cc own nL D tc b0) (hW : Wd G D tc b0 σ H) (hS : va_S (AA b0) s.heap H locs) {t a N k index : Nat} {Cn : String} {T : u_T} (ht : gT G a = t + 1) (K : Kl t Cn T N) (hk : k < N) (hlink : Cond.fieldLink own index (T k).1 (T k).2.1 (T k).2.2.1 ∈ gtbl) (hfin : (T k).2.2.2 = false) {v : Nat} (hty : tyk (cty (t + 1) k) = 2) (hn : ∀ o, narrow (cty (t + 1) k) (va_rf o) = va_rf o) (hfit : ∀ o, fits (cty (t + 1) k) (va_rf o) = true) (hdg : decode cc pc = .ok (.putfield index, 3)) (kk : ∀ (H1 : Heap) (locs1 : List Loc), Wd G D tc b0 (sR σ a k v) H1 → va_S (AA b0) s.heap H1 locs1 → W p l e R s m args below meth c H1 locs1 cells slots Q (F0 m (pc + 3) ls rest)) : W p l e R s m args below meth c H locs cells slots Q (F0 m pc ls (rv b0 v :: rv b0 a :: rest)) := by
  have hg := wd_get (tc := tc) (b0 := b0) (σ := σ) hW.2 (gT_ne ht)
  rw [cel_o ht K.2.2.1] at hg
  rw [ref_of hW.2 ht]
  refine va_put C.1 C.2.1 C.2.2.2.2.1 K.2.2.2.1 (cty (t + 1)) K.2.2.2.2.1 K.2.2.2.2.2 C.2.2.2.1 C.2.2.2.2.2.1 hW.1 (wd_D G tc b0 σ) hS (a - 1) hg K.1 k hk (C.2.2.2.2.1 _ hlink) (fun _ h => h) hfin (K.2.2.2.2.1 k hk) (hn _) (hfit _) (by rw [fsl_len ht, K.2.1]; exact hk) hdg (fun H1 locs1 h1 _ h3 => kk H1 locs1 (hW.put ht ?_ (fun b hb => cel_eq rfl rfl (up2_o hb)) h1) h3)
  rw [cel_o ht K.2.2.1, fsl_set (σ' := sR σ a k v) ht (by unfold sv; rw [hty, mR_s] <;> rfl) (fun j hj => sv_sR hj)]
/-! arrays -/
theorem x_iald (C : Cx p s m args meth c cc own nL D tc b0) (hW : Wd G D tc b0 σ H) {a : Nat} {i : Int32} (ht : gT G a = 100) (hi : vp_in i (gL G a)) (hdg : decode cc pc = .ok (.iaload, 1)) (kk : W p l e R s m args below meth c H locs cells slots Q (F0 m (pc + 1) ls (.int (mI σ a i.toNatClampNeg) :: rest))) : W p l e R s m args below meth c H locs cells slots Q (F0 m pc ls (.int i :: rv b0 a :: rest)) := by
  have hg := wd_get (tc := tc) (b0 := b0) (σ := σ) hW.2 (gT_ne ht)
  rw [cel_a ht (by decide), con_i (by omega)] at hg
  rw [ref_of hW.2 ht]
  exact va_iald C.1 C.2.1 C.2.2.2.2.2.1 hW.1 (a - 1) 0 hg rfl hi hdg kk
theorem x_bald (C : Cx p s m args meth c cc own nL D tc b0) (hW : Wd G D tc b0 σ H) {a : Nat} {i : Int32} (ht : gT G a = 101) (hi : vp_in i (gL G a)) (hdg : decode cc pc = .ok (.baload, 1)) (kk : W p l e R s m args below meth c H locs cells slots Q (F0 m (pc + 1) ls (.int (mI σ a i.toNatClampNeg) :: rest))) : W p l e R s m args below meth c H locs cells slots Q (F0 m pc ls (.int i :: rv b0 a :: rest)) := by
  have hg := wd_get (tc := tc) (b0 := b0) (σ := σ) hW.2 (gT_ne ht)
  rw [cel_a ht (by decide), con_i (by omega)] at hg
  rw [ref_of hW.2 ht]
  exact va_bald C.1 C.2.1 C.2.2.2.2.2.1 hW.1 (a - 1) 1 hg rfl hi hdg kk
theorem x_zald (C : Cx p s m args meth c cc own nL D tc b0) (hW : Wd G D tc b0 σ H) {a : Nat} {i : Int32} (ht : gT G a = 102) (hi : vp_in i (gL G a)) (hdg : decode cc pc = .ok (.baload, 1)) (kk : W p l e R s m args below meth c H locs cells slots Q (F0 m (pc + 1) ls (.int (mI σ a i.toNatClampNeg) :: rest))) : W p l e R s m args below meth c H locs cells slots Q (F0 m pc ls (.int i :: rv b0 a :: rest)) := by
  have hg := wd_get (tc := tc) (b0 := b0) (σ := σ) hW.2 (gT_ne ht)
  rw [cel_a ht (by decide), con_i (by omega)] at hg
  rw [ref_of hW.2 ht]
  exact va_zald C.1 C.2.1 C.2.2.2.2.2.1 hW.1 (a - 1) 2 hg rfl hi hdg kk
theorem x_lald (C : Cx p s m args meth c cc own nL D tc b0) (hW : Wd G D tc b0 σ H) {a : Nat} {i : Int32} (ht : gT G a = 103) (hi : vp_in i (gL G a)) (hdg : decode cc pc = .ok (.laload, 1)) (kk : W p l e R s m args below meth c H locs cells slots Q (F0 m (pc + 1) ls (.long (mJ σ a i.toNatClampNeg) :: rest))) : W p l e R s m args below meth c H locs cells slots Q (F0 m pc ls (.int i :: rv b0 a :: rest)) := by
  have hg := wd_get (tc := tc) (b0 := b0) (σ := σ) hW.2 (gT_ne ht)
  rw [cel_a ht (by decide), con_l (by omega)] at hg
  rw [ref_of hW.2 ht]
  exact va_lald C.1 C.2.1 C.2.2.2.2.2.1 hW.1 (a - 1) 3 hg rfl hi hdg kk
theorem x_aald (C : Cx p s m args meth c cc own nL D tc b0) (hW : Wd G D tc b0 σ H) {a t t0 : Nat} {E : String} {i : Int32} (ht : gT G a = t + 1) (h3 : 103 < t + 1) (hty : (tys tc)[t0]? = some (tc (t + 1), .object E)) (hi : vp_in i (gL G a)) (hdg : decode cc pc = .ok (.aaload, 1)) (kk : W p l e R s m args below meth c H locs cells slots Q (F0 m (pc + 1) ls (rv b0 (mR σ a i.toNatClampNeg) :: rest))) : W p l e R s m args below meth c H locs cells slots Q (F0 m pc ls (.int i :: rv b0 a :: rest)) := by
  have hg := wd_get (tc := tc) (b0 := b0) (σ := σ) hW.2 (gT_ne ht)
  rw [cel_a ht (by omega), con_r (by omega)] at hg
  rw [ref_of hW.2 ht]
  exact va_aldq C.1 C.2.1 C.2.2.2.2.2.1 hW.1 (a - 1) t0 hg hty hi hdg kk
theorem x_alen (C : Cx p s m args meth c cc own nL D tc b0) (hW : Wd G D tc b0 σ H) {a t t0 : Nat} {ty : FieldType} (ht : gT G a = t + 1) (h3 : ¬ t + 1 < 100) (hty : (tys tc)[t0]? = some (tc (t + 1), ty)) (hdg : decode cc pc = .ok (.arraylength, 1)) (kk : W p l e R s m args below meth c H locs cells slots Q (F0 m (pc + 1) ls (.int (Int32.ofNat (gL G a)) :: rest))) : W p l e R s m args below meth c H locs cells slots Q (F0 m pc ls (rv b0 a :: rest)) := by
  have hg := wd_get (tc := tc) (b0 := b0) (σ := σ) hW.2 (gT_ne ht)
  rw [cel_a ht h3] at hg
  rw [ref_of hW.2 ht]
  exact va_alen C.1 C.2.1 C.2.2.2.2.2.1 hW.1 (a - 1) t0 hg hty rfl hdg kk
theorem upd_up2 {f : Nat → Nat → Int32} {a k : Nat} {v : Int32} : up2 f a k v a = upd (f a) k v := by
  funext j
  simp [up2, upd]
theorem updL_up2 {f : Nat → Nat → Int64} {a k : Nat} {v : Int64} : up2 f a k v a = vp_updL (f a) k v := by
  funext j
  simp [up2, vp_updL]
theorem x_iast (C : Cx p s m args meth c cc own nL D tc b0) (hW : Wd G D tc b0 σ H) (hS : va_S (AA b0) s.heap H locs) {a : Nat} {i x : Int32} (ht : gT G a = 100) (hi : vp_in i (gL G a)) (hdg : decode cc pc = .ok (.iastore, 1)) (kk : ∀ (H1 : Heap) (locs1 : List Loc), Wd G D tc b0 (sI σ a i.toNatClampNeg x) H1 → va_S (AA b0) s.heap H1 locs1 → W p l e R s m args below meth c H1 locs1 cells slots Q (F0 m (pc + 1) ls rest)) : W p l e R s m args below meth c H locs cells slots Q (F0 m pc ls (.int x :: .int i :: rv b0 a :: rest)) := by
  have hg := wd_get (tc := tc) (b0 := b0) (σ := σ) hW.2 (gT_ne ht)
  rw [cel_a ht (by decide), con_i (by omega)] at hg
  rw [ref_of hW.2 ht]
  refine va_iast C.1 C.2.1 C.2.2.2.2.2.1 hW.1 (wd_D G tc b0 σ) hS (a - 1) 0 hg rfl hi hdg (fun H1 locs1 h1 _ h3 => kk H1 locs1 (hW.put ht ?_ (fun b hb => cel_eq (up2_o hb) rfl rfl) h1) h3)
  rw [cel_a ht (by decide), con_i (by omega)]
  show Sum.inl (_, _, Sum.inl (up2 σ.1 a _ x a)) = _
  rw [upd_up2]
  rfl
theorem x_bast (C : Cx p s m args meth c cc own nL D tc b0) (hW : Wd G D tc b0 σ H) (hS : va_S (AA b0) s.heap H locs) {a : Nat} {i x : Int32} (ht : gT G a = 101) (hi : vp_in i (gL G a)) (hdg : decode cc pc = .ok (.bastore, 1)) (kk : ∀ (H1 : Heap) (locs1 : List Loc), Wd G D tc b0 (sI σ a i.toNatClampNeg (vp_nar .byte x)) H1 → va_S (AA b0) s.heap H1 locs1 → W p l e R s m args below meth c H1 locs1 cells slots Q (F0 m (pc + 1) ls rest)) : W p l e R s m args below meth c H locs cells slots Q (F0 m pc ls (.int x :: .int i :: rv b0 a :: rest)) := by
  have hg := wd_get (tc := tc) (b0 := b0) (σ := σ) hW.2 (gT_ne ht)
  rw [cel_a ht (by decide), con_i (by omega)] at hg
  rw [ref_of hW.2 ht]
  refine va_bast C.1 C.2.1 C.2.2.2.2.2.1 hW.1 (wd_D G tc b0 σ) hS (a - 1) 1 hg rfl hi hdg (fun H1 locs1 h1 _ h3 => kk H1 locs1 (hW.put ht ?_ (fun b hb => cel_eq (up2_o hb) rfl rfl) h1) h3)
  rw [cel_a ht (by decide), con_i (by omega)]
  show Sum.inl (_, _, Sum.inl (up2 σ.1 a _ _ a)) = _
  rw [upd_up2]
  rfl
theorem x_zast (C : Cx p s m args meth c cc own nL D tc b0) (hW : Wd G D tc b0 σ H) (hS : va_S (AA b0) s.heap H locs) {a : Nat} {i x : Int32} (ht : gT G a = 102) (hi : vp_in i (gL G a)) (hdg : decode cc pc = .ok (.bastore, 1)) (kk : ∀ (H1 : Heap) (locs1 : List Loc), Wd G D tc b0 (sI σ a i.toNatClampNeg (vp_nar .boolean x)) H1 → va_S (AA b0) s.heap H1 locs1 → W p l e R s m args below meth c H1 locs1 cells slots Q (F0 m (pc + 1) ls rest)) : W p l e R s m args below meth c H locs cells slots Q (F0 m pc ls (.int x :: .int i :: rv b0 a :: rest)) := by
  have hg := wd_get (tc := tc) (b0 := b0) (σ := σ) hW.2 (gT_ne ht)
  rw [cel_a ht (by decide), con_i (by omega)] at hg
  rw [ref_of hW.2 ht]
  refine va_zast C.1 C.2.1 C.2.2.2.2.2.1 hW.1 (wd_D G tc b0 σ) hS (a - 1) 2 hg rfl hi hdg (fun H1 locs1 h1 _ h3 => kk H1 locs1 (hW.put ht ?_ (fun b hb => cel_eq (up2_o hb) rfl rfl) h1) h3)
  rw [cel_a ht (by decide), con_i (by omega)]
  show Sum.inl (_, _, Sum.inl (up2 σ.1 a _ _ a)) = _
  rw [upd_up2]
  rfl
theorem x_last (C : Cx p s m args meth c cc own nL D tc b0) (hW : Wd G D tc b0 σ H) (hS : va_S (AA b0) s.heap H locs) {a : Nat} {i : Int32} {x : Int64} (ht : gT G a = 103) (hi : vp_in i (gL G a)) (hdg : decode cc pc = .ok (.lastore, 1)) (kk : ∀ (H1 : Heap) (locs1 : List Loc), Wd G D tc b0 (sJ σ a i.toNatClampNeg x) H1 → va_S (AA b0) s.heap H1 locs1 → W p l e R s m args below meth c H1 locs1 cells slots Q (F0 m (pc + 1) ls rest)) : W p l e R s m args below meth c H locs cells slots Q (F0 m pc ls (.long x :: .int i :: rv b0 a :: rest)) := by
  have hg := wd_get (tc := tc) (b0 := b0) (σ := σ) hW.2 (gT_ne ht)
  rw [cel_a ht (by decide), con_l (by omega)] at hg
  rw [ref_of hW.2 ht]
  refine va_last C.1 C.2.1 C.2.2.2.2.2.1 hW.1 (wd_D G tc b0 σ) hS (a - 1) 3 hg rfl hi hdg (fun H1 locs1 h1 _ h3 => kk H1 locs1 (hW.put ht ?_ (fun b hb => cel_eq rfl (up2_o hb) rfl) h1) h3)
  rw [cel_a ht (by decide), con_l (by omega)]
  show Sum.inl (_, _, Sum.inr (Sum.inl (up2 σ.2.1 a _ _ a))) = _
  rw [updL_up2]
  rfl
theorem x_aast (C : Cx p s m args meth c cc own nL D tc b0) (hW : Wd G D tc b0 σ H) (hS : va_S (AA b0) s.heap H locs) {a t t0 v tv N : Nat} {Cn : String} {T : u_T} {i : Int32} (ht : gT G a = t + 1) (h3 : 103 < t + 1) (hty : (tys tc)[t0]? = some (tc (t + 1), .object Cn)) (hv : gT G v = tv + 1) (K : Kl tv Cn T N) (hi : vp_in i (gL G a)) (hdg : decode cc pc = .ok (.aastore, 1)) (kk : ∀ (H1 : Heap) (locs1 : List Loc), Wd G D tc b0 (sR σ a i.toNatClampNeg v) H1 → va_S (AA b0) s.heap H1 locs1 → W p l e R s m args below meth c H1 locs1 cells slots Q (F0 m (pc + 1) ls rest)) : W p l e R s m args below meth c H locs cells slots Q (F0 m pc ls (rv b0 v :: .int i :: rv b0 a :: rest)) := by
  have hg := wd_get (tc := tc) (b0 := b0) (σ := σ) hW.2 (gT_ne ht)
  rw [cel_a ht (by omega), con_r (by omega)] at hg
  have hg2 := wd_get (tc := tc) (b0 := b0) (σ := σ) hW.2 (gT_ne hv)
  rw [cel_o hv K.2.2.1] at hg2
  rw [ref_of hW.2 ht, ref_of hW.2 hv]
  refine va_astq (r := (Cn, T, N)) C.1 C.2.1 C.2.2.2.2.2.1 hW.1 (wd_D G tc b0 σ) hS (a - 1) t0 (v - 1) tv hg hty hg2 K.1 hi hdg (fun H1 locs1 h1 _ h5 => kk H1 locs1 (hW.put ht ?_ (fun b hb => cel_eq rfl rfl (up2_o hb)) h1) h5)
  rw [cel_a ht (by omega), con_r (by omega)]
  have hv0 : v ≠ 0 := by have := (hW.2 v (gT_ne hv)).1; omega
  have e : (fun j => ro b0 (mR (sR σ a i.toNatClampNeg v) a j)) = va_up (fun j => ro b0 (mR σ a j)) i.toNatClampNeg (some (b0 + v)) := by
    funext j
    by_cases hj : j = i.toNatClampNeg
    · subst hj
      simp [va_up, mR_s, ro, hv0]
    · simp [va_up, hj, mR, sR, up2]
  rw [e]
end XH
