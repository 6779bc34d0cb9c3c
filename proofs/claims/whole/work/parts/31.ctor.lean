set_option maxRecDepth 20000 in
set_option maxHeartbeats 4000000 in
theorem s_X0_init {Q : Lay → Mem → Prop} (r : Nat) (l1 : Nat) (G : Lay) (σ : Mem) (ht : gT G r = 1) (h1 : 1 ≤ r) (h2 : r ≤ gN G) (k : ∀ (G1 : Lay) (s1 : Mem), Mk r G σ [] [] [(0, l1)] G1 s1 → Q G1 s1) : X_X0_init Q r l1 G σ := by
  unfold X_X0_init X_X0_init_0
  have hM := Mk.rf (σ0 := σ) h1 h2
  refine ⟨ht, ?_⟩
  refine fun s1 e1 => ?_
  replace hM := hM.ref 0 l1 (by simp) (by simp)
  rw [← e1] at hM
  clear e1
  exact ⟨hM.2.1, hM.2.2.1, k _ _ hM⟩
set_option maxRecDepth 20000 in
set_option maxHeartbeats 4000000 in
theorem s_X1_init {Q : Lay → Mem → Prop} (r : Nat) (G : Lay) (σ : Mem) (ht : gT G r = 2) (h1 : 1 ≤ r) (h2 : r ≤ gN G) (k : ∀ (G1 : Lay) (s1 : Mem), Mk r G σ [(5, 105, 16), (7, 102, 4), (8, 100, 4), (9, 100, 4)] [] [] G1 s1 → Q G1 s1) : X_X1_init Q r G σ := by
  unfold X_X1_init X_X1_init_0
  have hM := Mk.rf (σ0 := σ) h1 h2
  refine ⟨ht, ?_⟩
  refine mk_step hM ht (by decide) (by decide) (by decide) (by simp) (fun G1 s0 s1 hM => ?_)
  refine mk_step hM ht (by decide) (by decide) (by decide) (by simp) (fun G1 s0 s1 hM => ?_)
  refine mk_step hM ht (by decide) (by decide) (by decide) (by simp) (fun G1 s0 s1 hM => ?_)
  refine mk_step hM ht (by decide) (by decide) (by decide) (by simp) (fun G1 s0 s1 hM => ?_)
  exact ⟨hM.2.1, hM.2.2.1, k _ _ hM⟩
set_option maxRecDepth 20000 in
set_option maxHeartbeats 4000000 in
theorem s_X2_init {Q : Lay → Mem → Prop} (r : Nat) (G : Lay) (σ : Mem) (ht : gT G r = 3) (h1 : 1 ≤ r) (h2 : r ≤ gN G) (k : ∀ (G1 : Lay) (s1 : Mem), Mk r G σ [] [] [] G1 s1 → Q G1 s1) : X_X2_init Q r G σ := by
  unfold X_X2_init X_X2_init_0
  have hM := Mk.rf (σ0 := σ) h1 h2
  refine ⟨ht, ?_⟩
  exact ⟨hM.2.1, hM.2.2.1, k _ _ hM⟩
set_option maxRecDepth 20000 in
set_option maxHeartbeats 4000000 in
theorem s_X3_init {Q : Lay → Mem → Prop} (r : Nat) (G : Lay) (σ : Mem) (ht : gT G r = 4) (h1 : 1 ≤ r) (h2 : r ≤ gN G) (k : ∀ (G1 : Lay) (s1 : Mem), Mk r G σ [(2, 100, 6000), (3, 100, 64)] [] [] G1 s1 → Q G1 s1) : X_X3_init Q r G σ := by
  unfold X_X3_init X_X3_init_0
  have hM := Mk.rf (σ0 := σ) h1 h2
  refine ⟨ht, ?_⟩
  refine mk_step hM ht (by decide) (by decide) (by decide) (by simp) (fun G1 s0 s1 hM => ?_)
  refine mk_step hM ht (by decide) (by decide) (by decide) (by simp) (fun G1 s0 s1 hM => ?_)
  exact ⟨hM.2.1, hM.2.2.1, k _ _ hM⟩
set_option maxRecDepth 20000 in
set_option maxHeartbeats 4000000 in
theorem s_X4_init {Q : Lay → Mem → Prop} (r : Nat) (l1 : Nat) (l2 : Nat) (G : Lay) (σ : Mem) (ht : gT G r = 5) (h1 : 1 ≤ r) (h2 : r ≤ gN G) (k : ∀ (G1 : Lay) (s1 : Mem), Mk r G σ [(3, 100, 64)] [] [(0, l1), (1, l2)] G1 s1 → Q G1 s1) : X_X4_init Q r l1 l2 G σ := by
  unfold X_X4_init X_X4_init_0
  have hM := Mk.rf (σ0 := σ) h1 h2
  refine ⟨ht, ?_⟩
  refine mk_step hM ht (by decide) (by decide) (by decide) (by simp) (fun G1 s0 s1 hM => ?_)
  refine fun s1 e1 => ?_
  replace hM := hM.ref 0 l1 (by simp) (by simp)
  rw [← e1] at hM
  clear e1
  refine fun s1 e1 => ?_
  replace hM := hM.ref 1 l2 (by simp) (by simp)
  rw [← e1] at hM
  clear e1
  exact ⟨hM.2.1, hM.2.2.1, k _ _ hM⟩
set_option maxRecDepth 20000 in
set_option maxHeartbeats 4000000 in
theorem s_X5_init {Q : Lay → Mem → Prop} (r : Nat) (l1 : Nat) (G : Lay) (σ : Mem) (ht : gT G r = 6) (h1 : 1 ≤ r) (h2 : r ≤ gN G) (k : ∀ (G1 : Lay) (s1 : Mem), Mk r G σ [(1, 100, 12), (2, 100, 720), (3, 100, 720), (4, 100, 720), (5, 100, 11520)] [] [(0, l1)] G1 s1 → Q G1 s1) : X_X5_init Q r l1 G σ := by
  unfold X_X5_init X_X5_init_0
  have hM := Mk.rf (σ0 := σ) h1 h2
  refine ⟨ht, ?_⟩
  refine mk_step hM ht (by decide) (by decide) (by decide) (by simp) (fun G1 s0 s1 hM => ?_)
  refine mk_step hM ht (by decide) (by decide) (by decide) (by simp) (fun G1 s0 s1 hM => ?_)
  refine mk_step hM ht (by decide) (by decide) (by decide) (by simp) (fun G1 s0 s1 hM => ?_)
  refine mk_step hM ht (by decide) (by decide) (by decide) (by simp) (fun G1 s0 s1 hM => ?_)
  refine mk_step hM ht (by decide) (by decide) (by decide) (by simp) (fun G1 s0 s1 hM => ?_)
  refine fun s1 e1 => ?_
  replace hM := hM.ref 0 l1 (by simp) (by simp)
  rw [← e1] at hM
  clear e1
  exact ⟨hM.2.1, hM.2.2.1, k _ _ hM⟩
set_option maxRecDepth 20000 in
set_option maxHeartbeats 4000000 in
theorem s_X7_init {Q : Lay → Mem → Prop} (r : Nat) (l1 : Int32) (G : Lay) (σ : Mem) (ht : gT G r = 8) (h1 : 1 ≤ r) (h2 : r ≤ gN G) (k : ∀ (G1 : Lay) (s1 : Mem), Mk r G σ [(6, 100, 16), (7, 100, 16)] [(0, l1)] [] G1 s1 → Q G1 s1) : X_X7_init Q r l1 G σ := by
  unfold X_X7_init X_X7_init_0
  have hM := Mk.rf (σ0 := σ) h1 h2
  refine ⟨ht, ?_⟩
  refine mk_step hM ht (by decide) (by decide) (by decide) (by simp) (fun G1 s0 s1 hM => ?_)
  refine mk_step hM ht (by decide) (by decide) (by decide) (by simp) (fun G1 s0 s1 hM => ?_)
  refine fun s1 e1 => ?_
  replace hM := hM.int 0 l1 (by decide)
  rw [← e1] at hM
  clear e1
  exact ⟨hM.2.1, hM.2.2.1, k _ _ hM⟩
set_option maxRecDepth 20000 in
set_option maxHeartbeats 4000000 in
theorem s_X8_init {Q : Lay → Mem → Prop} (r : Nat) (G : Lay) (σ : Mem) (ht : gT G r = 9) (h1 : 1 ≤ r) (h2 : r ≤ gN G) (k : ∀ (G1 : Lay) (s1 : Mem), Mk r G σ [(0, 100, 3001), (1, 100, 3001), (2, 103, 3001)] [(6, (-1 : Int32))] [] G1 s1 → Q G1 s1) : X_X8_init Q r G σ := by
  unfold X_X8_init X_X8_init_0
  have hM := Mk.rf (σ0 := σ) h1 h2
  refine ⟨ht, ?_⟩
  refine mk_step hM ht (by decide) (by decide) (by decide) (by simp) (fun G1 s0 s1 hM => ?_)
  refine mk_step hM ht (by decide) (by decide) (by decide) (by simp) (fun G1 s0 s1 hM => ?_)
  refine mk_step hM ht (by decide) (by decide) (by decide) (by simp) (fun G1 s0 s1 hM => ?_)
  refine fun s1 e1 => ?_
  replace hM := hM.int 6 (-1 : Int32) (by decide)
  rw [← e1] at hM
  clear e1
  exact ⟨hM.2.1, hM.2.2.1, k _ _ hM⟩
set_option maxRecDepth 20000 in
set_option maxHeartbeats 4000000 in
theorem s_X12_init {Q : Lay → Mem → Prop} (r : Nat) (G : Lay) (σ : Mem) (ht : gT G r = 13) (h1 : 1 ≤ r) (h2 : r ≤ gN G) (k : ∀ (G1 : Lay) (s1 : Mem), Mk r G σ [(0, 100, 3000), (3, 103, 26), (4, 100, 26), (5, 100, 26), (6, 100, 26), (7, 100, 26), (8, 103, 416), (9, 100, 416), (10, 100, 416), (11, 100, 416), (12, 100, 416), (13, 100, 416), (14, 100, 416), (15, 100, 416), (16, 103, 416), (17, 100, 416), (18, 103, 416), (19, 100, 416), (20, 100, 104), (21, 100, 104), (22, 100, 104), (23, 103, 3200), (27, 100, 720), (28, 100, 720), (29, 100, 720), (30, 100, 720), (31, 100, 11520), (32, 100, 12), (34, 100, 720), (35, 100, 720), (36, 100, 720), (37, 100, 720), (38, 100, 11520), (39, 102, 4), (40, 100, 4), (41, 100, 4), (42, 100, 240), (43, 100, 240), (44, 100, 240), (45, 100, 240), (46, 100, 240), (47, 100, 3840), (48, 100, 3840), (59, 100, 64), (61, 100, 130), (62, 100, 60), (63, 100, 130), (70, 100, 200), (71, 100, 200), (72, 100, 200), (73, 100, 200), (74, 100, 60), (76, 102, 240), (77, 102, 3840), (78, 100, 16), (79, 102, 240), (81, 100, 3200), (82, 100, 3200), (83, 100, 3200), (84, 100, 3200), (85, 100, 3200), (86, 100, 3200), (91, 100, 60), (92, 100, 3200), (94, 100, 3200)] [(55, (-1 : Int32)), (65, (-1 : Int32)), (66, (-1 : Int32)), (67, (-1 : Int32)), (68, (-1 : Int32))] [] G1 s1 → Q G1 s1) : X_X12_init Q r G σ := by
  unfold X_X12_init X_X12_init_0
  have hM := Mk.rf (σ0 := σ) h1 h2
  refine ⟨ht, ?_⟩
  refine mk_step hM ht (by decide) (by decide) (by decide) (by simp) (fun G1 s0 s1 hM => ?_)
  refine mk_step hM ht (by decide) (by decide) (by decide) (by simp) (fun G1 s0 s1 hM => ?_)
  refine mk_step hM ht (by decide) (by decide) (by decide) (by simp) (fun G1 s0 s1 hM => ?_)
  refine mk_step hM ht (by decide) (by decide) (by decide) (by simp) (fun G1 s0 s1 hM => ?_)
  refine mk_step hM ht (by decide) (by decide) (by decide) (by simp) (fun G1 s0 s1 hM => ?_)
  refine mk_step hM ht (by decide) (by decide) (by decide) (by simp) (fun G1 s0 s1 hM => ?_)
  refine mk_step hM ht (by decide) (by decide) (by decide) (by simp) (fun G1 s0 s1 hM => ?_)
  refine mk_step hM ht (by decide) (by decide) (by decide) (by simp) (fun G1 s0 s1 hM => ?_)
  refine mk_step hM ht (by decide) (by decide) (by decide) (by simp) (fun G1 s0 s1 hM => ?_)
  refine mk_step hM ht (by decide) (by decide) (by decide) (by simp) (fun G1 s0 s1 hM => ?_)
  refine mk_step hM ht (by decide) (by decide) (by decide) (by simp) (fun G1 s0 s1 hM => ?_)
  refine mk_step hM ht (by decide) (by decide) (by decide) (by simp) (fun G1 s0 s1 hM => ?_)
  refine mk_step hM ht (by decide) (by decide) (by decide) (by simp) (fun G1 s0 s1 hM => ?_)
  refine mk_step hM ht (by decide) (by decide) (by decide) (by simp) (fun G1 s0 s1 hM => ?_)
  refine mk_step hM ht (by decide) (by decide) (by decide) (by simp) (fun G1 s0 s1 hM => ?_)
  refine mk_step hM ht (by decide) (by decide) (by decide) (by simp) (fun G1 s0 s1 hM => ?_)
  refine mk_step hM ht (by decide) (by decide) (by decide) (by simp) (fun G1 s0 s1 hM => ?_)
  refine mk_step hM ht (by decide) (by decide) (by decide) (by simp) (fun G1 s0 s1 hM => ?_)
  refine mk_step hM ht (by decide) (by decide) (by decide) (by simp) (fun G1 s0 s1 hM => ?_)
  refine mk_step hM ht (by decide) (by decide) (by decide) (by simp) (fun G1 s0 s1 hM => ?_)
  refine mk_step hM ht (by decide) (by decide) (by decide) (by simp) (fun G1 s0 s1 hM => ?_)
  refine mk_step hM ht (by decide) (by decide) (by decide) (by simp) (fun G1 s0 s1 hM => ?_)
  refine mk_step hM ht (by decide) (by decide) (by decide) (by simp) (fun G1 s0 s1 hM => ?_)
  refine mk_step hM ht (by decide) (by decide) (by decide) (by simp) (fun G1 s0 s1 hM => ?_)
  refine mk_step hM ht (by decide) (by decide) (by decide) (by simp) (fun G1 s0 s1 hM => ?_)
  refine mk_step hM ht (by decide) (by decide) (by decide) (by simp) (fun G1 s0 s1 hM => ?_)
  refine mk_step hM ht (by decide) (by decide) (by decide) (by simp) (fun G1 s0 s1 hM => ?_)
  refine mk_step hM ht (by decide) (by decide) (by decide) (by simp) (fun G1 s0 s1 hM => ?_)
  refine mk_step hM ht (by decide) (by decide) (by decide) (by simp) (fun G1 s0 s1 hM => ?_)
  refine mk_step hM ht (by decide) (by decide) (by decide) (by simp) (fun G1 s0 s1 hM => ?_)
  refine mk_step hM ht (by decide) (by decide) (by decide) (by simp) (fun G1 s0 s1 hM => ?_)
  refine mk_step hM ht (by decide) (by decide) (by decide) (by simp) (fun G1 s0 s1 hM => ?_)
  refine mk_step hM ht (by decide) (by decide) (by decide) (by simp) (fun G1 s0 s1 hM => ?_)
  refine mk_step hM ht (by decide) (by decide) (by decide) (by simp) (fun G1 s0 s1 hM => ?_)
  refine mk_step hM ht (by decide) (by decide) (by decide) (by simp) (fun G1 s0 s1 hM => ?_)
  refine mk_step hM ht (by decide) (by decide) (by decide) (by simp) (fun G1 s0 s1 hM => ?_)
  refine mk_step hM ht (by decide) (by decide) (by decide) (by simp) (fun G1 s0 s1 hM => ?_)
  refine mk_step hM ht (by decide) (by decide) (by decide) (by simp) (fun G1 s0 s1 hM => ?_)
  refine mk_step hM ht (by decide) (by decide) (by decide) (by simp) (fun G1 s0 s1 hM => ?_)
  refine mk_step hM ht (by decide) (by decide) (by decide) (by simp) (fun G1 s0 s1 hM => ?_)
  refine mk_step hM ht (by decide) (by decide) (by decide) (by simp) (fun G1 s0 s1 hM => ?_)
  refine mk_step hM ht (by decide) (by decide) (by decide) (by simp) (fun G1 s0 s1 hM => ?_)
  refine mk_step hM ht (by decide) (by decide) (by decide) (by simp) (fun G1 s0 s1 hM => ?_)
  refine fun s1 e1 => ?_
  replace hM := hM.int 55 (-1 : Int32) (by decide)
  rw [← e1] at hM
  clear e1
  refine mk_step hM ht (by decide) (by decide) (by decide) (by simp) (fun G1 s0 s1 hM => ?_)
  refine mk_step hM ht (by decide) (by decide) (by decide) (by simp) (fun G1 s0 s1 hM => ?_)
  refine mk_step hM ht (by decide) (by decide) (by decide) (by simp) (fun G1 s0 s1 hM => ?_)
  refine mk_step hM ht (by decide) (by decide) (by decide) (by simp) (fun G1 s0 s1 hM => ?_)
  refine fun s1 e1 => ?_
  replace hM := hM.int 65 (-1 : Int32) (by decide)
  rw [← e1] at hM
  clear e1
  refine fun s1 e1 => ?_
  replace hM := hM.int 66 (-1 : Int32) (by decide)
  rw [← e1] at hM
  clear e1
  refine fun s1 e1 => ?_
  replace hM := hM.int 67 (-1 : Int32) (by decide)
  rw [← e1] at hM
  clear e1
  refine fun s1 e1 => ?_
  replace hM := hM.int 68 (-1 : Int32) (by decide)
  rw [← e1] at hM
  clear e1
  refine mk_step hM ht (by decide) (by decide) (by decide) (by simp) (fun G1 s0 s1 hM => ?_)
  refine mk_step hM ht (by decide) (by decide) (by decide) (by simp) (fun G1 s0 s1 hM => ?_)
  refine mk_step hM ht (by decide) (by decide) (by decide) (by simp) (fun G1 s0 s1 hM => ?_)
  refine mk_step hM ht (by decide) (by decide) (by decide) (by simp) (fun G1 s0 s1 hM => ?_)
  refine mk_step hM ht (by decide) (by decide) (by decide) (by simp) (fun G1 s0 s1 hM => ?_)
  refine mk_step hM ht (by decide) (by decide) (by decide) (by simp) (fun G1 s0 s1 hM => ?_)
  refine mk_step hM ht (by decide) (by decide) (by decide) (by simp) (fun G1 s0 s1 hM => ?_)
  refine mk_step hM ht (by decide) (by decide) (by decide) (by simp) (fun G1 s0 s1 hM => ?_)
  refine mk_step hM ht (by decide) (by decide) (by decide) (by simp) (fun G1 s0 s1 hM => ?_)
  refine mk_step hM ht (by decide) (by decide) (by decide) (by simp) (fun G1 s0 s1 hM => ?_)
  refine mk_step hM ht (by decide) (by decide) (by decide) (by simp) (fun G1 s0 s1 hM => ?_)
  refine mk_step hM ht (by decide) (by decide) (by decide) (by simp) (fun G1 s0 s1 hM => ?_)
  refine mk_step hM ht (by decide) (by decide) (by decide) (by simp) (fun G1 s0 s1 hM => ?_)
  refine mk_step hM ht (by decide) (by decide) (by decide) (by simp) (fun G1 s0 s1 hM => ?_)
  refine mk_step hM ht (by decide) (by decide) (by decide) (by simp) (fun G1 s0 s1 hM => ?_)
  refine mk_step hM ht (by decide) (by decide) (by decide) (by simp) (fun G1 s0 s1 hM => ?_)
  refine mk_step hM ht (by decide) (by decide) (by decide) (by simp) (fun G1 s0 s1 hM => ?_)
  refine mk_step hM ht (by decide) (by decide) (by decide) (by simp) (fun G1 s0 s1 hM => ?_)
  exact ⟨hM.2.1, hM.2.2.1, k _ _ hM⟩
