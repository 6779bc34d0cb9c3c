abbrev refAs : List (Nat × Nat × Nat) := [(0, 100, 3000), (3, 103, 26), (4, 100, 26), (5, 100, 26), (6, 100, 26), (7, 100, 26), (8, 103, 416), (9, 100, 416), (10, 100, 416), (11, 100, 416), (12, 100, 416), (13, 100, 416), (14, 100, 416), (15, 100, 416), (16, 103, 416), (17, 100, 416), (18, 103, 416), (19, 100, 416), (20, 100, 104), (21, 100, 104), (22, 100, 104), (23, 103, 3200), (27, 100, 720), (28, 100, 720), (29, 100, 720), (30, 100, 720), (31, 100, 11520), (32, 100, 12), (34, 100, 720), (35, 100, 720), (36, 100, 720), (37, 100, 720), (38, 100, 11520), (39, 102, 4), (40, 100, 4), (41, 100, 4), (42, 100, 240), (43, 100, 240), (44, 100, 240), (45, 100, 240), (46, 100, 240), (47, 100, 3840), (48, 100, 3840), (59, 100, 64), (61, 100, 130), (62, 100, 60), (63, 100, 130), (70, 100, 200), (71, 100, 200), (72, 100, 200), (73, 100, 200), (74, 100, 60), (76, 102, 240), (77, 102, 3840), (78, 100, 16), (79, 102, 240), (81, 100, 3200), (82, 100, 3200), (83, 100, 3200), (84, 100, 3200), (85, 100, 3200), (86, 100, 3200), (91, 100, 60), (92, 100, 3200), (94, 100, 3200)]
abbrev refNs : List (Nat × Int32) := [(55, (-1 : Int32)), (65, (-1 : Int32)), (66, (-1 : Int32)), (67, (-1 : Int32)), (68, (-1 : Int32))]
abbrev regPs : List (Nat × Nat) := [(11, 1281), (10, 1269), (9, 532), (8, 531), (7, 275), (6, 13), (4, 11), (5, 8), (3, 7), (2, 3), (0, 2)]
/-- the fresh register, wherever it stands -/
def RegP (G : Lay) (σ : Mem) : Prop := gT G 1 = 12 ∧ (∀ q ∈ regPs, mR σ 1 q.1 = q.2) ∧ (∀ k, mI σ 1 k = 0) ∧ RegB G σ ∧ (gT G 532 = 107 ∧ gL G 532 = 4 ∧ ∀ u, u < 4 → mR σ 532 u = 533 + 184 * u) ∧ (∀ u, u < 4 → UnF u G σ) ∧ Stg [1] 1269 11 1280 (fun Ga σa Gb σb => Wrt 1269 13 Ga σa Gb σb) G σ ∧ Ar 1281 100 60 G σ
/-- the fresh reference, cell 1282 -/
def RefP (G : Lay) (σ : Mem) : Prop := ∃ (Ga : Lay) (σa : Mem), gN Ga = 1282 ∧ (∀ k, mI σa 1282 k = 0 ∧ mJ σa 1282 k = 0 ∧ mR σa 1282 k = 0) ∧ Mk 1282 Ga σa refAs refNs [] G σ
/-- the two fresh objects -/
def Fresh (G : Lay) (σ : Mem) : Prop := RegP G σ ∧ RefP G σ ∧ gT G 1282 = 13
set_option maxRecDepth 20000 in
set_option maxHeartbeats 4000000 in
/-- what is left of X_all: the loop, from the two fresh objects on -/
theorem all_of {xs : Nat → Int32} {L : Nat} (h : ∀ (G : Lay) (σ : Mem), Fresh G σ → X_L G xs L 1 1282 σ) : X_all xs L := by
  unfold X_all
  refine s_X11_init _ _ (by rw [gT_A]; rfl) rfl (fun G1 s1 hF => ?_)
  obtain ⟨hC, hB, hU, hUs, hWr, hFo⟩ := hF
  have n1 : gN G1 = 1281 := hC.1
  refine s_X12_init _ _ _ (by rw [gT_A, if_pos rfl]) (by omega) (by rw [gN_A]; omega) (fun G2 s2 hM => ?_)
  obtain ⟨hC2, hS⟩ := hC.ctor (by decide) hM.kp
  have e13 : gT G2 (gN G1 + 1) = 13 := hM.kind (by rw [gT_A, if_pos rfl])
  refine ⟨hC2.2.2.1, e13, ?_⟩
  rw [n1] at e13 ⊢
  refine h G2 s2 ⟨⟨hC2.2.2.1, hC2.2.2.2.1, fun k => ?_, hB.go hS (by decide) (by simp), ?_, fun u hu => (hUs u hu).go hS (by omega) (by simp), hWr.go hS (by decide) (by simp), hFo.go hS (by decide) (by simp)⟩, ⟨gA G1 13 0 95, sZ s1 (gN G1 + 1), by rw [gN_A, n1], fun k => ?_, ?_⟩, e13⟩
  · rw [hC2.2.2.2.2 k, mI_sZ, if_pos rfl]
  · have x1 := hS 532 (by decide) (by simp)
    refine ⟨?_, ?_, fun u hu => ?_⟩
    · rw [x1.1.1]; exact hU.1
    · rw [x1.1.2]; exact hU.2.1
    · rw [(x1.2 u).2.2]; exact hU.2.2 u hu
  · rw [n1, mI_sZ, mJ_sZ, mR_sZ, if_pos rfl, if_pos rfl, if_pos rfl]
    exact ⟨rfl, rfl, rfl⟩
  · rw [n1] at hM ⊢
    exact hM
