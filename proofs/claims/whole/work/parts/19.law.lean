/-! the law: its locals, of which the first is the script -/
theorem hL.ofS {b0 : Nat} {ls' : Array Slot} {nL i : Nat} {vs : List (Option Vl)} {v : Vl} {l : List (Nat × Value)} (hs : ∀ q ∈ toL b0 vs, q ∈ l) (hp : okp vs i = true) (h' : lv_has ls' nL ((i, vv b0 v) :: l.filter (fun q => !(q.1 == i) && !(q.1 + 1 == i && q.2.category == 2)))) : hL b0 ls' nL (vs.set i (some v)) := by
  refine ⟨h'.1, h'.2.1, fun j w hj => ?_⟩
  rw [List.getElem?_set] at hj
  by_cases hij : i = j
  · subst hij
    rw [if_pos rfl] at hj
    by_cases hlt : i < vs.length
    · rw [if_pos hlt] at hj
      cases hj
      exact h'.2.2 (i, vv b0 v) List.mem_cons_self
    · rw [if_neg hlt] at hj
      cases hj
  · rw [if_neg hij] at hj
    refine h'.2.2 (j, vv b0 w) (List.mem_cons_of_mem _ (List.mem_filter.mpr ⟨hs _ (toL_mem hj), ?_⟩))
    by_cases h1 : j + 1 = i
    · have h2 := okp_cat (b0 := b0) hp h1 hj
      simp [h2]
      omega
    · simp [h1]
      omega
/-- known locals, and the script's place -/
def hLb (b0 b : Nat) (ls : Array Slot) (nL : Nat) (vs : List (Option Vl)) : Prop := hL b0 ls nL vs ∧ ls[0]? = some (.val (.ref b))
theorem hLb.has {b0 b : Nat} {ls : Array Slot} {nL : Nat} {vs : List (Option Vl)} (h : hLb b0 b ls nL vs) : lv_has ls nL ((0, .ref b) :: toL b0 vs) := by
  refine ⟨h.1.1, h.1.2.1, fun q hq => ?_⟩
  rcases List.mem_cons.mp hq with rfl | hq
  · exact h.2
  · exact h.1.has.2.2 q hq
theorem hLb.of {b0 b : Nat} {ls' : Array Slot} {nL i : Nat} {vs : List (Option Vl)} {v : Vl} (hi : i ≠ 0) (hp : okp vs i = true) (h' : lv_has ls' nL ((i, vv b0 v) :: ((0, Value.ref b) :: toL b0 vs).filter (fun q => !(q.1 == i) && !(q.1 + 1 == i && q.2.category == 2)))) : hLb b0 b ls' nL (vs.set i (some v)) := by
  refine ⟨hL.ofS (fun q hq => List.mem_cons_of_mem _ hq) hp h', ?_⟩
  refine h'.2.2 (0, .ref b) (List.mem_cons_of_mem _ (List.mem_filter.mpr ⟨List.mem_cons_self, ?_⟩))
  have h1 : (0 == i) = false := by simp; omega
  have h2 : (Value.ref b).category = 1 := rfl
  simp [h1, h2]
section XLa
variable {p : Program} {l : Launch} {e : Env} {R : Room} {s : State} {m : MethodId} {args : Array Value} {below : List Frame} {meth : Method} {c : Code} {H : Heap} {locs : List Loc} {cells slots : Nat} {Q : State → Prop}
variable {D : va_G} {tc : Nat → ClassId} {b0 b : Nat} {cc : ByteArray} {own : String} {nL pc : Nat} {ls : Array Slot} {rest : List Value} {vs : List (Option Vl)} {σ : Mem} {G : Lay}
theorem z_istore_n (C : Cx p s m args meth c cc own nL D tc b0) (hl : hLb b0 b ls nL vs) {k : Fin 4} {x : Int32} (hdg : decode cc pc = .ok (.istore_n k, 1)) (hk : (k : Nat) ≠ 0) (hn : (k : Nat) < nL) (hp : okp vs k = true) (kk : ∀ ls' : Array Slot, hLb b0 b ls' nL (vs.set k (some (.inl x))) → W p l e R s m args below meth c H locs cells slots Q (F0 m (pc + 1) ls' rest)) : W p l e R s m args below meth c H locs cells slots Q (F0 m pc ls (.int x :: rest)) := lv_istore_n C.1 C.2.1 hdg rfl hl.has hn rfl (fun ls' h' => kk ls' (hLb.of (v := .inl x) hk hp h'))
theorem z_astore_n (C : Cx p s m args meth c cc own nL D tc b0) (hl : hLb b0 b ls nL vs) {k : Fin 4} {r : Nat} (hdg : decode cc pc = .ok (.astore_n k, 1)) (hk : (k : Nat) ≠ 0) (hn : (k : Nat) < nL) (hp : okp vs k = true) (hr : r ≠ 0) (kk : ∀ ls' : Array Slot, hLb b0 b ls' nL (vs.set k (some (.inr (.inr r)))) → W p l e R s m args below meth c H locs cells slots Q (F0 m (pc + 1) ls' rest)) : W p l e R s m args below meth c H locs cells slots Q (F0 m pc ls (rv b0 r :: rest)) := by
  have hk2 : ∀ ls' : Array Slot, lv_has ls' nL (((k : Nat), Value.ref (b0 + r)) :: ((0, Value.ref b) :: toL b0 vs).filter (fun q => !(q.1 == (k : Nat)) && !(q.1 + 1 == (k : Nat) && q.2.category == 2))) → W p l e R s m args below meth c H locs cells slots Q (F0 m (pc + 1) ls' rest) := fun ls' h' => kk ls' (hLb.of (v := .inr (.inr r)) hk hp (by show lv_has ls' nL (((k : Nat), rv b0 r) :: _); rw [rv_ref hr]; exact h'))
  rw [rv_ref hr]
  exact lv_astore_n C.1 C.2.1 hdg rfl hl.has hn rfl hk2
theorem z_iinc (C : Cx p s m args meth c cc own nL D tc b0) (hl : hLb b0 b ls nL vs) {i : Nat} {n : Int} {x v : Int32} (hdg : decode cc pc = .ok (.iinc i n, 3)) (hx : vs[i]? = some (some (.inl x))) (hv : Int32.ofInt n = v) (hi : i ≠ 0) (hn : i < nL) (hp : okp vs i = true) (kk : ∀ ls' : Array Slot, hLb b0 b ls' nL (vs.set i (some (.inl (x + v)))) → W p l e R s m args below meth c H locs cells slots Q (F0 m (pc + 3) ls' rest)) : W p l e R s m args below meth c H locs cells slots Q (F0 m pc ls rest) := by
  subst hv
  obtain ⟨k, hk⟩ := List.getElem?_of_mem (List.mem_cons_of_mem (0, Value.ref b) (toL_mem (b0 := b0) hx))
  exact lv_iinc C.1 C.2.1 hdg hl.has hk rfl hn rfl (fun ls' h' => kk ls' (hLb.of (v := .inl (x + Int32.ofInt n)) hi hp h'))
end XLa
theorem tb_out26 {x : Int32} (h0 : ¬ x = 0) (h1 : ¬ x = 1) (h2 : ¬ x = 2) (h3 : ¬ x = 3) (h4 : ¬ x = 4) (h5 : ¬ x = 5) (h6 : ¬ x = 6) (h7 : ¬ x = 7) (h8 : ¬ x = 8) (h9 : ¬ x = 9) (h10 : ¬ x = 10) (h11 : ¬ x = 11) (h12 : ¬ x = 12) (h13 : ¬ x = 13) (h14 : ¬ x = 14) (h15 : ¬ x = 15) (h16 : ¬ x = 16) (h17 : ¬ x = 17) (h18 : ¬ x = 18) (h19 : ¬ x = 19) (h20 : ¬ x = 20) (h21 : ¬ x = 21) (h22 : ¬ x = 22) (h23 : ¬ x = 23) (h24 : ¬ x = 24) (h25 : ¬ x = 25) : x.toInt < 0 ∨ 25 < x.toInt := by
  have := tb_out (x := x) 26 (by decide) (fun j hj => by
    match j, hj with
    | 0, _ => exact h0
    | 1, _ => exact h1
    | 2, _ => exact h2
    | 3, _ => exact h3
    | 4, _ => exact h4
    | 5, _ => exact h5
    | 6, _ => exact h6
    | 7, _ => exact h7
    | 8, _ => exact h8
    | 9, _ => exact h9
    | 10, _ => exact h10
    | 11, _ => exact h11
    | 12, _ => exact h12
    | 13, _ => exact h13
    | 14, _ => exact h14
    | 15, _ => exact h15
    | 16, _ => exact h16
    | 17, _ => exact h17
    | 18, _ => exact h18
    | 19, _ => exact h19
    | 20, _ => exact h20
    | 21, _ => exact h21
    | 22, _ => exact h22
    | 23, _ => exact h23
    | 24, _ => exact h24
    | 25, _ => exact h25
    | k + 26, hk => exact absurd hk (by omega))
  omega
