/-- from the two fresh objects on, every script of at most 3072 ints is answered alike -/
theorem loop_all (xs : Nat → Int32) (L : Nat) (hL : L ≤ 3072) (G : Lay) (σ : Mem) (h : Fresh G σ) : X_L G xs L 1 1282 σ := by
  obtain ⟨hG, h0⟩ := h.ly
  have e := loop_of hG (j_map hG) (j_close hG) (j_flush hG) (j_ask hG) h0 xs L hL
  rw [mg_self] at e
  exact e
theorem pure_all (xs : Nat → Int32) (L : Nat) (hL : L ≤ 3072) : X_all xs L := all_of (loop_all xs L hL)
theorem whole_start {p : Program} {e : Env} {s : State} {m : MethodId} {below : List Frame} {meth : Method} {c : Code} (l : Launch) {b L : Nat} {xs : Nat → Int32} (hL : L ≤ 3072) (C0 : lw_At p s m meth c b L xs) : W p l e room_1 s m #[Value.ref b] below meth c s.heap [] 0 0 (lw_Z below #[Value.ref b] s) (entryFrame m ([Value.ref b] : List Value).toArray 4) := start_of pure_all l hL C0
