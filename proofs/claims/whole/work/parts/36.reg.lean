/-! the register's constructor: what stays of a cell once it is made (but for the cells of ex) -/
def Sb (ex : List Nat) (n : Nat) (G : Lay) (σ : Mem) (G1 : Lay) (σ1 : Mem) : Prop := ∀ a, a ≤ n → a ∉ ex → (gT G1 a = gT G a ∧ gL G1 a = gL G a) ∧ ∀ k, mI σ1 a k = mI σ a k ∧ mJ σ1 a k = mJ σ a k ∧ mR σ1 a k = mR σ a k
theorem Sb.rf {ex : List Nat} {n : Nat} {G : Lay} {σ : Mem} : Sb ex n G σ G σ := fun _ _ _ => ⟨⟨rfl, rfl⟩, fun _ => ⟨rfl, rfl, rfl⟩⟩
theorem Sb.tr {ex : List Nat} {n m : Nat} {G G1 G2 : Lay} {σ σ1 σ2 : Mem} (h : Sb ex n G σ G1 σ1) (h2 : Sb ex m G1 σ1 G2 σ2) (hnm : n ≤ m) : Sb ex n G σ G2 σ2 := fun a ha he => by
  obtain ⟨⟨x1, x2⟩, x3⟩ := h a ha he
  obtain ⟨⟨y1, y2⟩, y3⟩ := h2 a (by omega) he
  refine ⟨⟨y1.trans x1, y2.trans x2⟩, fun k => ?_⟩
  obtain ⟨u1, u2, u3⟩ := x3 k
  obtain ⟨v1, v2, v3⟩ := y3 k
  exact ⟨v1.trans u1, v2.trans u2, v3.trans u3⟩
theorem Sb.more {ex ex2 : List Nat} {n : Nat} {G G1 : Lay} {σ σ1 : Mem} (h : Sb ex n G σ G1 σ1) (hx : ∀ a ∈ ex, a ∈ ex2) : Sb ex2 n G σ G1 σ1 := fun a ha he => h a ha (fun z => he (hx a z))
/-- the register while it is made: n cells, z slots so far; its references P -/
def Cur (z0 : Nat) (σ0 : Mem) (P : List (Nat × Nat)) (n z : Nat) (G : Lay) (σ : Mem) : Prop := gN G = n ∧ gZ G = z0 + z ∧ gT G 1 = 12 ∧ (∀ q ∈ P, mR σ 1 q.1 = q.2) ∧ (∀ k, mI σ 1 k = mI σ0 1 k)
/-- an array, put into slot s -/
theorem Cur.arr {z0 : Nat} {σ0 : Mem} {P : List (Nat × Nat)} {n z : Nat} {G : Lay} {σ : Mem} (h : Cur z0 σ0 P n z G σ) (h1 : 1 ≤ n) (c len s : Nat) (hs : s ∉ P.map (·.1)) : Cur z0 σ0 ((s, n + 1) :: P) (n + 1) (z + len) (gA G c len len) (sR (sZ σ (gN G + 1)) 1 s (gN G + 1)) ∧ Sb [1] n G σ (gA G c len len) (sR (sZ σ (gN G + 1)) 1 s (gN G + 1)) ∧ (gT (gA G c len len) (n + 1) = c ∧ gL (gA G c len len) (n + 1) = len ∧ ∀ k, mI (sR (sZ σ (gN G + 1)) 1 s (gN G + 1)) (n + 1) k = 0) := by
  obtain ⟨c1, c2, c3, c4, c5⟩ := h
  rw [c1]
  refine ⟨⟨by rw [gN_A, c1], by rw [gZ_A, c2]; omega, by rw [gT_A, c1, if_neg (by omega)]; exact c3, ?_, ?_⟩, ?_, ?_, ?_, ?_⟩
  · intro q hq
    rcases List.mem_cons.mp hq with rfl | hq
    · rw [mR_sR, if_pos ⟨rfl, rfl⟩]
    · have hq1 : q.1 ≠ s := fun e => hs (e ▸ List.mem_map.mpr ⟨q, hq, rfl⟩)
      rw [mR_sR, if_neg (by simp [hq1]), mR_sZ, if_neg (by omega)]
      exact c4 q hq
  · intro k
    rw [mI_sR, mI_sZ, if_neg (by omega)]
    exact c5 k
  · intro a ha he
    have he1 : a ≠ 1 := fun e => he (by simp [e])
    refine ⟨by rw [gT_A, gL_A, c1, if_neg (by omega), if_neg (by omega)]; exact ⟨rfl, rfl⟩, fun k => ?_⟩
    rw [mI_sR, mJ_sR, mR_sR, if_neg (by omega), mI_sZ, mJ_sZ, mR_sZ, if_neg (by omega), if_neg (by omega), if_neg (by omega)]
    exact ⟨rfl, rfl, rfl⟩
  · rw [gT_A, c1, if_pos rfl]
  · rw [gL_A, c1, if_pos rfl]
  · intro k
    rw [mI_sR, mI_sZ, if_pos rfl]
/-- an object by its constructor: before it is put into a field -/
theorem Cur.ctor {z0 : Nat} {σ0 : Mem} {P : List (Nat × Nat)} {n z t zo m zc : Nat} {G G9 : Lay} {σ s10 : Mem} (h : Cur z0 σ0 P n z G σ) (h1 : 1 ≤ n) (hk : Kp (gN G + 1) m zc (gA G t 0 zo) (sZ σ (gN G + 1)) G9 s10) : Cur z0 σ0 P (n + 1 + m) (z + zo + zc) G9 s10 ∧ Sb [] n G σ G9 s10 := by
  obtain ⟨c1, c2, c3, c4, c5⟩ := h
  obtain ⟨k1, k2, k3, k4⟩ := hk
  rw [gN_A, c1] at k1
  rw [gZ_A, c2] at k2
  rw [gN_A, c1] at k3 k4
  have low : ∀ a, a ≤ n → (gT G9 a = gT G a ∧ gL G9 a = gL G a) ∧ ∀ k, mI s10 a k = mI σ a k ∧ mJ s10 a k = mJ σ a k ∧ mR s10 a k = mR σ a k := by
    intro a ha
    have e1 := k3 a (by omega)
    rw [gT_A, gL_A, c1, if_neg (by omega), if_neg (by omega)] at e1
    refine ⟨e1, fun k => ?_⟩
    have e2 := k4 a k (by omega) (by omega)
    rw [mI_sZ, mJ_sZ, mR_sZ, if_neg (by omega), if_neg (by omega), if_neg (by omega)] at e2
    exact e2
  refine ⟨⟨k1, by rw [k2]; omega, by rw [(low 1 h1).1.1]; exact c3, fun q hq => ?_, fun k => ?_⟩, fun a ha _ => low a ha⟩
  · rw [((low 1 h1).2 q.1).2.2]
    exact c4 q hq
  · rw [((low 1 h1).2 k).1]
    exact c5 k
/-- put into a field -/
theorem Cur.put {z0 : Nat} {σ0 : Mem} {P : List (Nat × Nat)} {n z : Nat} {G : Lay} {σ : Mem} (h : Cur z0 σ0 P n z G σ) (s v : Nat) (hs : s ∉ P.map (·.1)) : Cur z0 σ0 ((s, v) :: P) n z G (sR σ 1 s v) ∧ Sb [1] n G σ G (sR σ 1 s v) := by
  obtain ⟨c1, c2, c3, c4, c5⟩ := h
  refine ⟨⟨c1, c2, c3, fun q hq => ?_, fun k => by rw [mI_sR]; exact c5 k⟩, fun a ha he => ⟨⟨rfl, rfl⟩, fun k => ?_⟩⟩
  · rcases List.mem_cons.mp hq with rfl | hq
    · rw [mR_sR, if_pos ⟨rfl, rfl⟩]
    · have hq1 : q.1 ≠ s := fun e => hs (e ▸ List.mem_map.mpr ⟨q, hq, rfl⟩)
      rw [mR_sR, if_neg (by simp [hq1])]
      exact c4 q hq
  · have he1 : a ≠ 1 := fun e => he (by simp [e])
    rw [mI_sR, mJ_sR, mR_sR, if_neg (by omega)]
    exact ⟨rfl, rfl, rfl⟩
