/-! leaves of the reference -/
theorem s_X12_isClass {G : Lay} {σ : Mem} {Q : Int32 → Mem → Prop} (h : RI G σ) (c : Int32) (k : Q (if ¬ c < 0 ∧ ¬ mI σ 1282 2 ≤ c then 1 else 0) σ) : X_X12_isClass G Q 1282 c σ := by
  unfold X_X12_isClass X_X12_isClass_0 X_X12_isClass_16 X_X12_isClass_17
  refine ⟨fun a => ⟨Or.inl rfl, ?_⟩, fun a => ⟨h.1, fun b => ⟨Or.inl rfl, ?_⟩, fun b => ⟨Or.inr rfl, ?_⟩⟩⟩
  · rw [if_neg (fun z => z.1 a)] at k; exact k
  · rw [if_neg (fun z => z.2 b)] at k; exact k
  · rw [if_pos ⟨a, b⟩] at k; exact k
/-- cell of an array of the reference, by its field -/
theorem RI.arr {G : Lay} {σ : Mem} (h : RI G σ) (j : Nat) {q : Nat × Nat × Nat} (hq : refAs[j]? = some q) : mR σ 1282 q.1 = 1283 + j ∧ gT G (1283 + j) = q.2.1 ∧ gL G (1283 + j) = q.2.2 := ⟨(h.2 j q hq).2.2, (h.2 j q hq).1, (h.2 j q hq).2.1⟩
theorem RI.f0 {G : Lay} {σ : Mem} (h : RI G σ) : mR σ 1282 0 = 1283 ∧ gT G 1283 = 100 ∧ gL G 1283 = 3000 := h.arr 0 (q := (0, 100, 3000)) rfl
theorem RI.f3 {G : Lay} {σ : Mem} (h : RI G σ) : mR σ 1282 3 = 1284 ∧ gT G 1284 = 103 ∧ gL G 1284 = 26 := h.arr 1 (q := (3, 103, 26)) rfl
theorem RI.f4 {G : Lay} {σ : Mem} (h : RI G σ) : mR σ 1282 4 = 1285 ∧ gT G 1285 = 100 ∧ gL G 1285 = 26 := h.arr 2 (q := (4, 100, 26)) rfl
theorem RI.f5 {G : Lay} {σ : Mem} (h : RI G σ) : mR σ 1282 5 = 1286 ∧ gT G 1286 = 100 ∧ gL G 1286 = 26 := h.arr 3 (q := (5, 100, 26)) rfl
theorem RI.f6 {G : Lay} {σ : Mem} (h : RI G σ) : mR σ 1282 6 = 1287 ∧ gT G 1287 = 100 ∧ gL G 1287 = 26 := h.arr 4 (q := (6, 100, 26)) rfl
theorem RI.f7 {G : Lay} {σ : Mem} (h : RI G σ) : mR σ 1282 7 = 1288 ∧ gT G 1288 = 100 ∧ gL G 1288 = 26 := h.arr 5 (q := (7, 100, 26)) rfl
theorem RI.f8 {G : Lay} {σ : Mem} (h : RI G σ) : mR σ 1282 8 = 1289 ∧ gT G 1289 = 103 ∧ gL G 1289 = 416 := h.arr 6 (q := (8, 103, 416)) rfl
theorem RI.f9 {G : Lay} {σ : Mem} (h : RI G σ) : mR σ 1282 9 = 1290 ∧ gT G 1290 = 100 ∧ gL G 1290 = 416 := h.arr 7 (q := (9, 100, 416)) rfl
theorem RI.f10 {G : Lay} {σ : Mem} (h : RI G σ) : mR σ 1282 10 = 1291 ∧ gT G 1291 = 100 ∧ gL G 1291 = 416 := h.arr 8 (q := (10, 100, 416)) rfl
theorem RI.f11 {G : Lay} {σ : Mem} (h : RI G σ) : mR σ 1282 11 = 1292 ∧ gT G 1292 = 100 ∧ gL G 1292 = 416 := h.arr 9 (q := (11, 100, 416)) rfl
theorem RI.f12 {G : Lay} {σ : Mem} (h : RI G σ) : mR σ 1282 12 = 1293 ∧ gT G 1293 = 100 ∧ gL G 1293 = 416 := h.arr 10 (q := (12, 100, 416)) rfl
theorem RI.f13 {G : Lay} {σ : Mem} (h : RI G σ) : mR σ 1282 13 = 1294 ∧ gT G 1294 = 100 ∧ gL G 1294 = 416 := h.arr 11 (q := (13, 100, 416)) rfl
theorem RI.f14 {G : Lay} {σ : Mem} (h : RI G σ) : mR σ 1282 14 = 1295 ∧ gT G 1295 = 100 ∧ gL G 1295 = 416 := h.arr 12 (q := (14, 100, 416)) rfl
theorem RI.f15 {G : Lay} {σ : Mem} (h : RI G σ) : mR σ 1282 15 = 1296 ∧ gT G 1296 = 100 ∧ gL G 1296 = 416 := h.arr 13 (q := (15, 100, 416)) rfl
theorem RI.f16 {G : Lay} {σ : Mem} (h : RI G σ) : mR σ 1282 16 = 1297 ∧ gT G 1297 = 103 ∧ gL G 1297 = 416 := h.arr 14 (q := (16, 103, 416)) rfl
theorem RI.f17 {G : Lay} {σ : Mem} (h : RI G σ) : mR σ 1282 17 = 1298 ∧ gT G 1298 = 100 ∧ gL G 1298 = 416 := h.arr 15 (q := (17, 100, 416)) rfl
theorem RI.f18 {G : Lay} {σ : Mem} (h : RI G σ) : mR σ 1282 18 = 1299 ∧ gT G 1299 = 103 ∧ gL G 1299 = 416 := h.arr 16 (q := (18, 103, 416)) rfl
theorem RI.f19 {G : Lay} {σ : Mem} (h : RI G σ) : mR σ 1282 19 = 1300 ∧ gT G 1300 = 100 ∧ gL G 1300 = 416 := h.arr 17 (q := (19, 100, 416)) rfl
theorem RI.f20 {G : Lay} {σ : Mem} (h : RI G σ) : mR σ 1282 20 = 1301 ∧ gT G 1301 = 100 ∧ gL G 1301 = 104 := h.arr 18 (q := (20, 100, 104)) rfl
theorem RI.f21 {G : Lay} {σ : Mem} (h : RI G σ) : mR σ 1282 21 = 1302 ∧ gT G 1302 = 100 ∧ gL G 1302 = 104 := h.arr 19 (q := (21, 100, 104)) rfl
theorem RI.f22 {G : Lay} {σ : Mem} (h : RI G σ) : mR σ 1282 22 = 1303 ∧ gT G 1303 = 100 ∧ gL G 1303 = 104 := h.arr 20 (q := (22, 100, 104)) rfl
theorem RI.f23 {G : Lay} {σ : Mem} (h : RI G σ) : mR σ 1282 23 = 1304 ∧ gT G 1304 = 103 ∧ gL G 1304 = 3200 := h.arr 21 (q := (23, 103, 3200)) rfl
theorem RI.f27 {G : Lay} {σ : Mem} (h : RI G σ) : mR σ 1282 27 = 1305 ∧ gT G 1305 = 100 ∧ gL G 1305 = 720 := h.arr 22 (q := (27, 100, 720)) rfl
theorem RI.f28 {G : Lay} {σ : Mem} (h : RI G σ) : mR σ 1282 28 = 1306 ∧ gT G 1306 = 100 ∧ gL G 1306 = 720 := h.arr 23 (q := (28, 100, 720)) rfl
theorem RI.f29 {G : Lay} {σ : Mem} (h : RI G σ) : mR σ 1282 29 = 1307 ∧ gT G 1307 = 100 ∧ gL G 1307 = 720 := h.arr 24 (q := (29, 100, 720)) rfl
theorem RI.f30 {G : Lay} {σ : Mem} (h : RI G σ) : mR σ 1282 30 = 1308 ∧ gT G 1308 = 100 ∧ gL G 1308 = 720 := h.arr 25 (q := (30, 100, 720)) rfl
theorem RI.f31 {G : Lay} {σ : Mem} (h : RI G σ) : mR σ 1282 31 = 1309 ∧ gT G 1309 = 100 ∧ gL G 1309 = 11520 := h.arr 26 (q := (31, 100, 11520)) rfl
theorem RI.f32 {G : Lay} {σ : Mem} (h : RI G σ) : mR σ 1282 32 = 1310 ∧ gT G 1310 = 100 ∧ gL G 1310 = 12 := h.arr 27 (q := (32, 100, 12)) rfl
theorem RI.f34 {G : Lay} {σ : Mem} (h : RI G σ) : mR σ 1282 34 = 1311 ∧ gT G 1311 = 100 ∧ gL G 1311 = 720 := h.arr 28 (q := (34, 100, 720)) rfl
theorem RI.f35 {G : Lay} {σ : Mem} (h : RI G σ) : mR σ 1282 35 = 1312 ∧ gT G 1312 = 100 ∧ gL G 1312 = 720 := h.arr 29 (q := (35, 100, 720)) rfl
theorem RI.f36 {G : Lay} {σ : Mem} (h : RI G σ) : mR σ 1282 36 = 1313 ∧ gT G 1313 = 100 ∧ gL G 1313 = 720 := h.arr 30 (q := (36, 100, 720)) rfl
theorem RI.f37 {G : Lay} {σ : Mem} (h : RI G σ) : mR σ 1282 37 = 1314 ∧ gT G 1314 = 100 ∧ gL G 1314 = 720 := h.arr 31 (q := (37, 100, 720)) rfl
theorem RI.f38 {G : Lay} {σ : Mem} (h : RI G σ) : mR σ 1282 38 = 1315 ∧ gT G 1315 = 100 ∧ gL G 1315 = 11520 := h.arr 32 (q := (38, 100, 11520)) rfl
theorem RI.f39 {G : Lay} {σ : Mem} (h : RI G σ) : mR σ 1282 39 = 1316 ∧ gT G 1316 = 102 ∧ gL G 1316 = 4 := h.arr 33 (q := (39, 102, 4)) rfl
theorem RI.f40 {G : Lay} {σ : Mem} (h : RI G σ) : mR σ 1282 40 = 1317 ∧ gT G 1317 = 100 ∧ gL G 1317 = 4 := h.arr 34 (q := (40, 100, 4)) rfl
theorem RI.f41 {G : Lay} {σ : Mem} (h : RI G σ) : mR σ 1282 41 = 1318 ∧ gT G 1318 = 100 ∧ gL G 1318 = 4 := h.arr 35 (q := (41, 100, 4)) rfl
theorem RI.f42 {G : Lay} {σ : Mem} (h : RI G σ) : mR σ 1282 42 = 1319 ∧ gT G 1319 = 100 ∧ gL G 1319 = 240 := h.arr 36 (q := (42, 100, 240)) rfl
theorem RI.f43 {G : Lay} {σ : Mem} (h : RI G σ) : mR σ 1282 43 = 1320 ∧ gT G 1320 = 100 ∧ gL G 1320 = 240 := h.arr 37 (q := (43, 100, 240)) rfl
theorem RI.f44 {G : Lay} {σ : Mem} (h : RI G σ) : mR σ 1282 44 = 1321 ∧ gT G 1321 = 100 ∧ gL G 1321 = 240 := h.arr 38 (q := (44, 100, 240)) rfl
theorem RI.f45 {G : Lay} {σ : Mem} (h : RI G σ) : mR σ 1282 45 = 1322 ∧ gT G 1322 = 100 ∧ gL G 1322 = 240 := h.arr 39 (q := (45, 100, 240)) rfl
theorem RI.f46 {G : Lay} {σ : Mem} (h : RI G σ) : mR σ 1282 46 = 1323 ∧ gT G 1323 = 100 ∧ gL G 1323 = 240 := h.arr 40 (q := (46, 100, 240)) rfl
theorem RI.f47 {G : Lay} {σ : Mem} (h : RI G σ) : mR σ 1282 47 = 1324 ∧ gT G 1324 = 100 ∧ gL G 1324 = 3840 := h.arr 41 (q := (47, 100, 3840)) rfl
theorem RI.f48 {G : Lay} {σ : Mem} (h : RI G σ) : mR σ 1282 48 = 1325 ∧ gT G 1325 = 100 ∧ gL G 1325 = 3840 := h.arr 42 (q := (48, 100, 3840)) rfl
theorem RI.f59 {G : Lay} {σ : Mem} (h : RI G σ) : mR σ 1282 59 = 1326 ∧ gT G 1326 = 100 ∧ gL G 1326 = 64 := h.arr 43 (q := (59, 100, 64)) rfl
theorem RI.f61 {G : Lay} {σ : Mem} (h : RI G σ) : mR σ 1282 61 = 1327 ∧ gT G 1327 = 100 ∧ gL G 1327 = 130 := h.arr 44 (q := (61, 100, 130)) rfl
theorem RI.f62 {G : Lay} {σ : Mem} (h : RI G σ) : mR σ 1282 62 = 1328 ∧ gT G 1328 = 100 ∧ gL G 1328 = 60 := h.arr 45 (q := (62, 100, 60)) rfl
theorem RI.f63 {G : Lay} {σ : Mem} (h : RI G σ) : mR σ 1282 63 = 1329 ∧ gT G 1329 = 100 ∧ gL G 1329 = 130 := h.arr 46 (q := (63, 100, 130)) rfl
theorem RI.f70 {G : Lay} {σ : Mem} (h : RI G σ) : mR σ 1282 70 = 1330 ∧ gT G 1330 = 100 ∧ gL G 1330 = 200 := h.arr 47 (q := (70, 100, 200)) rfl
theorem RI.f71 {G : Lay} {σ : Mem} (h : RI G σ) : mR σ 1282 71 = 1331 ∧ gT G 1331 = 100 ∧ gL G 1331 = 200 := h.arr 48 (q := (71, 100, 200)) rfl
theorem RI.f72 {G : Lay} {σ : Mem} (h : RI G σ) : mR σ 1282 72 = 1332 ∧ gT G 1332 = 100 ∧ gL G 1332 = 200 := h.arr 49 (q := (72, 100, 200)) rfl
theorem RI.f73 {G : Lay} {σ : Mem} (h : RI G σ) : mR σ 1282 73 = 1333 ∧ gT G 1333 = 100 ∧ gL G 1333 = 200 := h.arr 50 (q := (73, 100, 200)) rfl
theorem RI.f74 {G : Lay} {σ : Mem} (h : RI G σ) : mR σ 1282 74 = 1334 ∧ gT G 1334 = 100 ∧ gL G 1334 = 60 := h.arr 51 (q := (74, 100, 60)) rfl
theorem RI.f76 {G : Lay} {σ : Mem} (h : RI G σ) : mR σ 1282 76 = 1335 ∧ gT G 1335 = 102 ∧ gL G 1335 = 240 := h.arr 52 (q := (76, 102, 240)) rfl
theorem RI.f77 {G : Lay} {σ : Mem} (h : RI G σ) : mR σ 1282 77 = 1336 ∧ gT G 1336 = 102 ∧ gL G 1336 = 3840 := h.arr 53 (q := (77, 102, 3840)) rfl
theorem RI.f78 {G : Lay} {σ : Mem} (h : RI G σ) : mR σ 1282 78 = 1337 ∧ gT G 1337 = 100 ∧ gL G 1337 = 16 := h.arr 54 (q := (78, 100, 16)) rfl
theorem RI.f79 {G : Lay} {σ : Mem} (h : RI G σ) : mR σ 1282 79 = 1338 ∧ gT G 1338 = 102 ∧ gL G 1338 = 240 := h.arr 55 (q := (79, 102, 240)) rfl
theorem RI.f81 {G : Lay} {σ : Mem} (h : RI G σ) : mR σ 1282 81 = 1339 ∧ gT G 1339 = 100 ∧ gL G 1339 = 3200 := h.arr 56 (q := (81, 100, 3200)) rfl
theorem RI.f82 {G : Lay} {σ : Mem} (h : RI G σ) : mR σ 1282 82 = 1340 ∧ gT G 1340 = 100 ∧ gL G 1340 = 3200 := h.arr 57 (q := (82, 100, 3200)) rfl
theorem RI.f83 {G : Lay} {σ : Mem} (h : RI G σ) : mR σ 1282 83 = 1341 ∧ gT G 1341 = 100 ∧ gL G 1341 = 3200 := h.arr 58 (q := (83, 100, 3200)) rfl
theorem RI.f84 {G : Lay} {σ : Mem} (h : RI G σ) : mR σ 1282 84 = 1342 ∧ gT G 1342 = 100 ∧ gL G 1342 = 3200 := h.arr 59 (q := (84, 100, 3200)) rfl
theorem RI.f85 {G : Lay} {σ : Mem} (h : RI G σ) : mR σ 1282 85 = 1343 ∧ gT G 1343 = 100 ∧ gL G 1343 = 3200 := h.arr 60 (q := (85, 100, 3200)) rfl
theorem RI.f86 {G : Lay} {σ : Mem} (h : RI G σ) : mR σ 1282 86 = 1344 ∧ gT G 1344 = 100 ∧ gL G 1344 = 3200 := h.arr 61 (q := (86, 100, 3200)) rfl
theorem RI.f91 {G : Lay} {σ : Mem} (h : RI G σ) : mR σ 1282 91 = 1345 ∧ gT G 1345 = 100 ∧ gL G 1345 = 60 := h.arr 62 (q := (91, 100, 60)) rfl
theorem RI.f92 {G : Lay} {σ : Mem} (h : RI G σ) : mR σ 1282 92 = 1346 ∧ gT G 1346 = 100 ∧ gL G 1346 = 3200 := h.arr 63 (q := (92, 100, 3200)) rfl
theorem RI.f94 {G : Lay} {σ : Mem} (h : RI G σ) : mR σ 1282 94 = 1347 ∧ gT G 1347 = 100 ∧ gL G 1347 = 3200 := h.arr 64 (q := (94, 100, 3200)) rfl
theorem s_X12_isUnit {G : Lay} {σ : Mem} {Q : Int32 → Mem → Prop} (h : RI G σ) (u : Int32) (k : Q (if (¬ u < 0 ∧ ¬ 4 ≤ u) ∧ ¬ mI σ 1316 u.toNatClampNeg = 0 then 1 else 0) σ) : X_X12_isUnit G Q 1282 u σ := by
  obtain ⟨e1, e2, e3⟩ := h.f39
  unfold X_X12_isUnit X_X12_isUnit_0 X_X12_isUnit_22 X_X12_isUnit_23
  rw [e1, e2, e3]
  refine ⟨fun a => ⟨Or.inl rfl, ?_⟩, fun a => ⟨fun b => ⟨Or.inl rfl, ?_⟩, fun b => ⟨h.1, rfl, ?_, fun c => ⟨Or.inl rfl, ?_⟩, fun c => ⟨Or.inr rfl, ?_⟩⟩⟩⟩
  · rw [if_neg (fun z => z.1.1 a)] at k; exact k
  · rw [if_neg (fun z => z.1.2 b)] at k; exact k
  · rcases pk_ix u (n := 4) (by decide) with q | q | ⟨j, hj, rfl⟩
    · exact absurd q a
    · exact absurd q b
    · exact vp_in_nI hj (by decide)
  · rw [if_neg (fun z => z.2 c)] at k; exact k
  · rw [if_pos ⟨⟨a, b⟩, c⟩] at k; exact k
