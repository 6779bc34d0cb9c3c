/-! THE CLAIM OUT OF ONE WALK OF THE LAW'S BODY. Your part is whole_start (and what it stands on); all else here is the same for every law, but numbers. -/
def R_law : String := "BeeRegisterLaw"
def lw_P (b : Addr) (xs : List Int32) (args : Array Value) (s : State) : Prop := args = #[.ref b] ∧ s.IntsAt b xs ∧ xs.length ≤ 3072 ∧ (Jvm.Cond.and given_1 narrow_1).before args s = true
def lw_Q (_ : Array Value) (s : State) (o : Outcome) (t : State) : Prop := o = .returned (some (.int 1)) ∧ Framed s o t [] 600000 7302250
def lw_Z (below : List Frame) (a : Array Value) (s : State) : State → Prop := fun t => ∃ o, t.status = .running ∧ Ended t below o ∧ lw_Q a s o t
/-- the law's own end, with 1 on the stack, nothing written that was there before, its room as the claim has it -/
theorem lw_ret {p : Program} {l : Launch} {e : Env} {s : State} {m : MethodId} {below : List Frame} {meth : Method} {c : Code} {b : Nat} (hx : p.tables.exec = Jvm.exec) (hb : c.code = code) (hr : meth.sig.returnType = ret) (hlocks : meth.locks = false) {pc : Nat} {H : Heap} {ls : Array Slot} (hdg : decode code pc = .ok (.ireturn, 1)) : W p l e room_1 s m #[Value.ref b] below meth c H [] 600000 7302250 (lw_Z below #[Value.ref b] s) (F0 m pc ls [.int 1]) := by
  intro T hT X
  obtain ⟨fs, hret, hrun, hended, hW, hframe⟩ := X.leave (v := some (.int 1)) (hlocks := hlocks) (fun h => by rw [hr] at h; cases h)
  have hmeth' : T.vm.method? m = some meth := X.method'
  refine ⟨T.setFrames fs, ?_, .returned (some (.int 1)), hrun, hended, rfl, ⟨_, rfl⟩, hW, hframe⟩
  jvm_step X.here [X.here.top, hx, hb, hdg, hmeth', hr, ret, narrow_b1]
  (try refine ⟨rfl, ?_⟩); (try refine ⟨rfl, ?_⟩)
  first | (intro acts; rw [hret _ acts rfl rfl rfl]) | rw [hret _ _ rfl rfl rfl]
  exact Steps.refl _
/-- what holds at the law's entry: the machine, the code, the tables' words (any of lw_tbl by 'hts w (by decide +kernel)'), the script of L ints xs at the cell b, what the Statement gives of the start (any of its parts by flat_of_before) -/
def lw_At (p : Program) (s : State) (m : MethodId) (meth : Method) (c : Code) (b L : Nat) (xs : Nat → Int32) : Prop :=
  p.tables.exec = Jvm.exec ∧ c.code = code ∧ meth.sig.returnType = ret ∧ c.maxLocals = 4 ∧ s.vm.findClass R_law = some m.cls ∧ (∀ w ∈ lw_tbl, w.before #[Value.ref b] s = true) ∧ va_X b L xs s s.heap ∧ b < s.heap.size ∧ meth.locks = false ∧ (Jvm.Cond.and given_1 narrow_1).before #[Value.ref b] s = true
set_option maxRecDepth 20000 in
theorem ml_L_13 : Cond.methodLink RL 13 yX11_feed ∈ gtbl := gc3 44 rfl rfl
set_option maxRecDepth 20000 in
theorem ml_L_17 : Cond.methodLink RL 17 yX12_feed ∈ gtbl := gc8 42 rfl rfl
set_option maxRecDepth 20000 in
theorem ml_L_18 : Cond.methodLink RL 18 yX11_end ∈ gtbl := gc3 52 rfl rfl
set_option maxRecDepth 20000 in
theorem ml_L_22 : Cond.methodLink RL 22 yX12_end ∈ gtbl := gc8 46 rfl rfl
set_option maxRecDepth 20000 in
theorem ml_L_23 : Cond.methodLink RL 23 yX11_map ∈ gtbl := gc3 56 rfl rfl
set_option maxRecDepth 20000 in
theorem ml_L_27 : Cond.methodLink RL 27 yX12_map ∈ gtbl := gc8 50 rfl rfl
set_option maxRecDepth 20000 in
theorem ml_L_28 : Cond.methodLink RL 28 yX11_fault ∈ gtbl := gc4 147 rfl rfl
set_option maxRecDepth 20000 in
theorem ml_L_31 : Cond.methodLink RL 31 yX12_fault ∈ gtbl := gc8 147 rfl rfl
set_option maxRecDepth 20000 in
theorem ml_L_32 : Cond.methodLink RL 32 yX11_look ∈ gtbl := gc4 151 rfl rfl
set_option maxRecDepth 20000 in
theorem ml_L_36 : Cond.methodLink RL 36 yX12_look ∈ gtbl := gc8 151 rfl rfl
set_option maxRecDepth 20000 in
theorem ml_L_37 : Cond.methodLink RL 37 yX11_member ∈ gtbl := gc4 156 rfl rfl
set_option maxRecDepth 20000 in
theorem ml_L_41 : Cond.methodLink RL 41 yX12_member ∈ gtbl := gc8 163 rfl rfl
set_option maxRecDepth 20000 in
theorem ml_L_42 : Cond.methodLink RL 42 yX11_unit ∈ gtbl := gc4 162 rfl rfl
set_option maxRecDepth 20000 in
theorem ml_L_45 : Cond.methodLink RL 45 yX12_unit ∈ gtbl := gc8 167 rfl rfl
set_option maxRecDepth 20000 in
theorem ml_L_46 : Cond.methodLink RL 46 yX11_close ∈ gtbl := gc4 170 rfl rfl
set_option maxRecDepth 20000 in
theorem ml_L_49 : Cond.methodLink RL 49 yX12_close ∈ gtbl := gc9 121 rfl rfl
set_option maxRecDepth 20000 in
theorem ml_L_50 : Cond.methodLink RL 50 yX11_flush ∈ gtbl := gc5 130 rfl rfl
set_option maxRecDepth 20000 in
theorem ml_L_53 : Cond.methodLink RL 53 yX12_flush ∈ gtbl := gc9 45 rfl rfl
set_option maxRecDepth 20000 in
theorem ml_L_54 : Cond.methodLink RL 54 yX11_outcome ∈ gtbl := gc5 134 rfl rfl
set_option maxRecDepth 20000 in
theorem ml_L_57 : Cond.methodLink RL 57 yX12_outcome ∈ gtbl := gc9 125 rfl rfl
set_option maxRecDepth 20000 in
theorem ml_L_58 : Cond.methodLink RL 58 yX11_write ∈ gtbl := gc5 138 rfl rfl
set_option maxRecDepth 20000 in
theorem ml_L_61 : Cond.methodLink RL 61 yX12_write ∈ gtbl := gc9 129 rfl rfl
set_option maxRecDepth 20000 in
theorem ml_L_62 : Cond.methodLink RL 62 yX11_make ∈ gtbl := gc5 146 rfl rfl
set_option maxRecDepth 20000 in
theorem ml_L_65 : Cond.methodLink RL 65 yX12_make ∈ gtbl := gc8 171 rfl rfl
set_option maxRecDepth 20000 in
theorem ml_L_66 : Cond.methodLink RL 66 yX11_find ∈ gtbl := gc5 158 rfl rfl
set_option maxRecDepth 20000 in
theorem ml_L_69 : Cond.methodLink RL 69 yX12_find ∈ gtbl := gc8 186 rfl rfl
set_option maxRecDepth 20000 in
theorem ml_L_70 : Cond.methodLink RL 70 yX11_object ∈ gtbl := gc5 184 rfl rfl
set_option maxRecDepth 20000 in
theorem ml_L_73 : Cond.methodLink RL 73 yX12_object ∈ gtbl := gc8 214 rfl rfl
set_option maxRecDepth 20000 in
theorem ml_L_74 : Cond.methodLink RL 74 yX11_value ∈ gtbl := gc5 197 rfl rfl
set_option maxRecDepth 20000 in
theorem ml_L_78 : Cond.methodLink RL 78 yX12_value ∈ gtbl := gc8 222 rfl rfl
set_option maxRecDepth 20000 in
theorem ml_L_79 : Cond.methodLink RL 79 yX11_put ∈ gtbl := gc5 217 rfl rfl
set_option maxRecDepth 20000 in
theorem ml_L_83 : Cond.methodLink RL 83 yX12_put ∈ gtbl := gc8 233 rfl rfl
set_option maxRecDepth 20000 in
theorem ml_L_84 : Cond.methodLink RL 84 yX11_link ∈ gtbl := gc5 225 rfl rfl
set_option maxRecDepth 20000 in
theorem ml_L_87 : Cond.methodLink RL 87 yX12_link ∈ gtbl := gc9 1 rfl rfl
set_option maxRecDepth 20000 in
theorem ml_L_88 : Cond.methodLink RL 88 yX11_size ∈ gtbl := gc5 230 rfl rfl
set_option maxRecDepth 20000 in
theorem ml_L_91 : Cond.methodLink RL 91 yX12_size ∈ gtbl := gc9 5 rfl rfl
set_option maxRecDepth 20000 in
theorem ml_L_92 : Cond.methodLink RL 92 yX11_item ∈ gtbl := gc6 10 rfl rfl
set_option maxRecDepth 20000 in
theorem ml_L_95 : Cond.methodLink RL 95 yX12_item ∈ gtbl := gc9 17 rfl rfl
set_option maxRecDepth 20000 in
theorem ml_L_96 : Cond.methodLink RL 96 yX11_drop ∈ gtbl := gc6 15 rfl rfl
set_option maxRecDepth 20000 in
theorem ml_L_99 : Cond.methodLink RL 99 yX12_drop ∈ gtbl := gc9 21 rfl rfl
set_option maxRecDepth 20000 in
theorem ml_L_100 : Cond.methodLink RL 100 yX11_loads ∈ gtbl := gc6 41 rfl rfl
set_option maxRecDepth 20000 in
theorem ml_L_103 : Cond.methodLink RL 103 yX12_loads ∈ gtbl := gc9 25 rfl rfl
set_option maxRecDepth 20000 in
theorem ml_L_104 : Cond.methodLink RL 104 yX11_other ∈ gtbl := gc6 45 rfl rfl
set_option maxRecDepth 20000 in
theorem ml_L_108 : Cond.methodLink RL 108 yX12_other ∈ gtbl := gc9 29 rfl rfl
set_option maxRecDepth 20000 in
theorem ml_L_109 : Cond.methodLink RL 109 yX11_cell ∈ gtbl := gc6 52 rfl rfl
set_option maxRecDepth 20000 in
theorem ml_L_113 : Cond.methodLink RL 113 yX12_cell ∈ gtbl := gc9 133 rfl rfl
set_option maxRecDepth 20000 in
theorem ml_L_114 : Cond.methodLink RL 114 yX11_ask ∈ gtbl := gc6 87 rfl rfl
set_option maxRecDepth 20000 in
theorem ml_L_117 : Cond.methodLink RL 117 yX12_ask ∈ gtbl := gc9 138 rfl rfl
set_option maxRecDepth 20000 in
theorem ml_L_118 : Cond.methodLink RL 118 yX11_found ∈ gtbl := gc6 214 rfl rfl
set_option maxRecDepth 20000 in
theorem ml_L_121 : Cond.methodLink RL 121 yX12_found ∈ gtbl := gc9 182 rfl rfl
set_option maxRecDepth 20000 in
theorem ml_L_122 : Cond.methodLink RL 122 yX11_count ∈ gtbl := gc6 218 rfl rfl
set_option maxRecDepth 20000 in
theorem ml_L_125 : Cond.methodLink RL 125 yX12_count ∈ gtbl := gc9 186 rfl rfl
def X_L_c0 (G : Lay) (xs : Nat → Int32) (L : Nat) (l1 l2 : Nat) (K : Int32 × Mem → Prop) (l3 : Int32) (σ : Mem) : Prop := vp_in (l3 + (1 : Int32)) L ∧ vp_in (l3 + (2 : Int32)) L ∧ vp_in (l3 + (3 : Int32)) L ∧ vp_in (l3 + (4 : Int32)) L ∧ vp_in (l3 + (5 : Int32)) L ∧ X_X11_feed G (fun w7 s6 => X_X12_feed G (fun w9 s8 => ((w7 = w9 → K (l3 + 6, s8)) ∧ (¬ w7 = w9 → False))) l2 (xs (l3 + (1 : Int32)).toNatClampNeg) (xs (l3 + (2 : Int32)).toNatClampNeg) (xs (l3 + (3 : Int32)).toNatClampNeg) (xs (l3 + (4 : Int32)).toNatClampNeg) (xs (l3 + (5 : Int32)).toNatClampNeg) s6) l1 (xs (l3 + (1 : Int32)).toNatClampNeg) (xs (l3 + (2 : Int32)).toNatClampNeg) (xs (l3 + (3 : Int32)).toNatClampNeg) (xs (l3 + (4 : Int32)).toNatClampNeg) (xs (l3 + (5 : Int32)).toNatClampNeg) σ
def X_L_c1 (G : Lay) (xs : Nat → Int32) (L : Nat) (l1 l2 : Nat) (K : Int32 × Mem → Prop) (l3 : Int32) (σ : Mem) : Prop := vp_in (l3 + (1 : Int32)) L ∧ X_X11_end G (fun w12 s11 => X_X12_end G (fun w14 s13 => ((w12 = w14 → K (l3 + 6, s13)) ∧ (¬ w12 = w14 → False))) l2 (xs (l3 + (1 : Int32)).toNatClampNeg) s11) l1 (xs (l3 + (1 : Int32)).toNatClampNeg) σ
def X_L_c2 (G : Lay) (xs : Nat → Int32) (L : Nat) (l1 l2 : Nat) (K : Int32 × Mem → Prop) (l3 : Int32) (σ : Mem) : Prop := X_X11_map G (fun w16 s15 => X_X12_map G (fun w18 s17 => ((w16 = w18 → K (l3 + 6, s17)) ∧ (¬ w16 = w18 → False))) l2 s15) l1 σ
def X_L_c3 (G : Lay) (xs : Nat → Int32) (L : Nat) (l1 l2 : Nat) (K : Int32 × Mem → Prop) (l3 : Int32) (σ : Mem) : Prop := vp_in (l3 + (1 : Int32)) L ∧ X_X11_fault G (fun w21 s20 => X_X12_fault G (fun w23 s22 => ((w21 = w23 → K (l3 + 6, s22)) ∧ (¬ w21 = w23 → False))) l2 (xs (l3 + (1 : Int32)).toNatClampNeg) s20) l1 (xs (l3 + (1 : Int32)).toNatClampNeg) σ
def X_L_c4 (G : Lay) (xs : Nat → Int32) (L : Nat) (l1 l2 : Nat) (K : Int32 × Mem → Prop) (l3 : Int32) (σ : Mem) : Prop := vp_in (l3 + (1 : Int32)) L ∧ vp_in (l3 + (2 : Int32)) L ∧ X_X11_look G (fun w27 s26 => X_X12_look G (fun w29 s28 => ((w27 = w29 → K (l3 + 6, s28)) ∧ (¬ w27 = w29 → False))) l2 (xs (l3 + (1 : Int32)).toNatClampNeg) (xs (l3 + (2 : Int32)).toNatClampNeg) s26) l1 (xs (l3 + (1 : Int32)).toNatClampNeg) (xs (l3 + (2 : Int32)).toNatClampNeg) σ
def X_L_c5 (G : Lay) (xs : Nat → Int32) (L : Nat) (l1 l2 : Nat) (K : Int32 × Mem → Prop) (l3 : Int32) (σ : Mem) : Prop := vp_in (l3 + (1 : Int32)) L ∧ vp_in (l3 + (2 : Int32)) L ∧ vp_in (l3 + (3 : Int32)) L ∧ X_X11_member G (fun w34 s33 => X_X12_member G (fun w36 s35 => ((w34 = w36 → K (l3 + 6, s35)) ∧ (¬ w34 = w36 → False))) l2 (xs (l3 + (1 : Int32)).toNatClampNeg) (xs (l3 + (2 : Int32)).toNatClampNeg) (xs (l3 + (3 : Int32)).toNatClampNeg) s33) l1 (xs (l3 + (1 : Int32)).toNatClampNeg) (xs (l3 + (2 : Int32)).toNatClampNeg) (xs (l3 + (3 : Int32)).toNatClampNeg) σ
def X_L_c6 (G : Lay) (xs : Nat → Int32) (L : Nat) (l1 l2 : Nat) (K : Int32 × Mem → Prop) (l3 : Int32) (σ : Mem) : Prop := X_X11_unit G (fun w38 s37 => X_X12_unit G (fun w40 s39 => ((w38 = w40 → K (l3 + 6, s39)) ∧ (¬ w38 = w40 → False))) l2 s37) l1 σ
def X_L_c7 (G : Lay) (xs : Nat → Int32) (L : Nat) (l1 l2 : Nat) (K : Int32 × Mem → Prop) (l3 : Int32) (σ : Mem) : Prop := vp_in (l3 + (1 : Int32)) L ∧ vp_in (l3 + (2 : Int32)) L ∧ X_X11_close G (fun w44 s43 => X_X12_close G (fun w46 s45 => ((w44 = w46 → K (l3 + 6, s45)) ∧ (¬ w44 = w46 → False))) l2 (xs (l3 + (1 : Int32)).toNatClampNeg) (xs (l3 + (2 : Int32)).toNatClampNeg) s43) l1 (xs (l3 + (1 : Int32)).toNatClampNeg) (xs (l3 + (2 : Int32)).toNatClampNeg) σ
def X_L_c8 (G : Lay) (xs : Nat → Int32) (L : Nat) (l1 l2 : Nat) (K : Int32 × Mem → Prop) (l3 : Int32) (σ : Mem) : Prop := vp_in (l3 + (1 : Int32)) L ∧ X_X11_flush G (fun w49 s48 => X_X12_flush G (fun w51 s50 => ((w49 = w51 → K (l3 + 6, s50)) ∧ (¬ w49 = w51 → False))) l2 (xs (l3 + (1 : Int32)).toNatClampNeg) s48) l1 (xs (l3 + (1 : Int32)).toNatClampNeg) σ
def X_L_c9 (G : Lay) (xs : Nat → Int32) (L : Nat) (l1 l2 : Nat) (K : Int32 × Mem → Prop) (l3 : Int32) (σ : Mem) : Prop := vp_in (l3 + (1 : Int32)) L ∧ X_X11_outcome G (fun w54 s53 => X_X12_outcome G (fun w56 s55 => ((w54 = w56 → K (l3 + 6, s55)) ∧ (¬ w54 = w56 → False))) l2 (xs (l3 + (1 : Int32)).toNatClampNeg) s53) l1 (xs (l3 + (1 : Int32)).toNatClampNeg) σ
def X_L_c10 (G : Lay) (xs : Nat → Int32) (L : Nat) (l1 l2 : Nat) (K : Int32 × Mem → Prop) (l3 : Int32) (σ : Mem) : Prop := vp_in (l3 + (1 : Int32)) L ∧ vp_in (l3 + (2 : Int32)) L ∧ X_X11_write G (fun w60 s59 => X_X12_write G (fun w62 s61 => ((w60 = w62 → K (l3 + 6, s61)) ∧ (¬ w60 = w62 → False))) l2 (xs (l3 + (1 : Int32)).toNatClampNeg) (xs (l3 + (2 : Int32)).toNatClampNeg) s59) l1 (xs (l3 + (1 : Int32)).toNatClampNeg) (xs (l3 + (2 : Int32)).toNatClampNeg) σ
def X_L_c11 (G : Lay) (xs : Nat → Int32) (L : Nat) (l1 l2 : Nat) (K : Int32 × Mem → Prop) (l3 : Int32) (σ : Mem) : Prop := vp_in (l3 + (1 : Int32)) L ∧ vp_in (l3 + (2 : Int32)) L ∧ X_X11_make G (fun w66 s65 => X_X12_make G (fun w68 s67 => ((w66 = w68 → K (l3 + 6, s67)) ∧ (¬ w66 = w68 → False))) l2 (xs (l3 + (1 : Int32)).toNatClampNeg) (xs (l3 + (2 : Int32)).toNatClampNeg) s65) l1 (xs (l3 + (1 : Int32)).toNatClampNeg) (xs (l3 + (2 : Int32)).toNatClampNeg) σ
def X_L_c12 (G : Lay) (xs : Nat → Int32) (L : Nat) (l1 l2 : Nat) (K : Int32 × Mem → Prop) (l3 : Int32) (σ : Mem) : Prop := vp_in (l3 + (1 : Int32)) L ∧ vp_in (l3 + (2 : Int32)) L ∧ vp_in (l3 + (3 : Int32)) L ∧ X_X11_find G (fun w73 s72 => X_X12_find G (fun w75 s74 => ((w73 = w75 → K (l3 + 6, s74)) ∧ (¬ w73 = w75 → False))) l2 (xs (l3 + (1 : Int32)).toNatClampNeg) (xs (l3 + (2 : Int32)).toNatClampNeg) (xs (l3 + (3 : Int32)).toNatClampNeg) s72) l1 (xs (l3 + (1 : Int32)).toNatClampNeg) (xs (l3 + (2 : Int32)).toNatClampNeg) (xs (l3 + (3 : Int32)).toNatClampNeg) σ
def X_L_c13 (G : Lay) (xs : Nat → Int32) (L : Nat) (l1 l2 : Nat) (K : Int32 × Mem → Prop) (l3 : Int32) (σ : Mem) : Prop := vp_in (l3 + (1 : Int32)) L ∧ vp_in (l3 + (2 : Int32)) L ∧ X_X11_object G (fun w79 s78 => X_X12_object G (fun w81 s80 => ((w79 = w81 → K (l3 + 6, s80)) ∧ (¬ w79 = w81 → False))) l2 (xs (l3 + (1 : Int32)).toNatClampNeg) (xs (l3 + (2 : Int32)).toNatClampNeg) s78) l1 (xs (l3 + (1 : Int32)).toNatClampNeg) (xs (l3 + (2 : Int32)).toNatClampNeg) σ
def X_L_c14 (G : Lay) (xs : Nat → Int32) (L : Nat) (l1 l2 : Nat) (K : Int32 × Mem → Prop) (l3 : Int32) (σ : Mem) : Prop := vp_in (l3 + (1 : Int32)) L ∧ vp_in (l3 + (2 : Int32)) L ∧ X_X11_value G (fun w85 s84 => X_X12_value G (fun w87 s86 => (((lg_cmp w85 w87) = 0 → K (l3 + 6, s86)) ∧ (¬ (lg_cmp w85 w87) = 0 → False))) l2 (xs (l3 + (1 : Int32)).toNatClampNeg) (xs (l3 + (2 : Int32)).toNatClampNeg) s84) l1 (xs (l3 + (1 : Int32)).toNatClampNeg) (xs (l3 + (2 : Int32)).toNatClampNeg) σ
def X_L_c15 (G : Lay) (xs : Nat → Int32) (L : Nat) (l1 l2 : Nat) (K : Int32 × Mem → Prop) (l3 : Int32) (σ : Mem) : Prop := vp_in (l3 + (1 : Int32)) L ∧ vp_in (l3 + (2 : Int32)) L ∧ vp_in (l3 + (3 : Int32)) L ∧ X_X11_put G (fun w92 s91 => X_X12_put G (fun w94 s93 => ((w92 = w94 → K (l3 + 6, s93)) ∧ (¬ w92 = w94 → False))) l2 (xs (l3 + (1 : Int32)).toNatClampNeg) (xs (l3 + (2 : Int32)).toNatClampNeg) (xs (l3 + (3 : Int32)).toNatClampNeg) s91) l1 (xs (l3 + (1 : Int32)).toNatClampNeg) (xs (l3 + (2 : Int32)).toNatClampNeg) (xs (l3 + (3 : Int32)).toNatClampNeg) σ
def X_L_c16 (G : Lay) (xs : Nat → Int32) (L : Nat) (l1 l2 : Nat) (K : Int32 × Mem → Prop) (l3 : Int32) (σ : Mem) : Prop := vp_in (l3 + (1 : Int32)) L ∧ vp_in (l3 + (2 : Int32)) L ∧ vp_in (l3 + (3 : Int32)) L ∧ X_X11_link G (fun w99 s98 => X_X12_link G (fun w101 s100 => ((w99 = w101 → K (l3 + 6, s100)) ∧ (¬ w99 = w101 → False))) l2 (xs (l3 + (1 : Int32)).toNatClampNeg) (xs (l3 + (2 : Int32)).toNatClampNeg) (xs (l3 + (3 : Int32)).toNatClampNeg) s98) l1 (xs (l3 + (1 : Int32)).toNatClampNeg) (xs (l3 + (2 : Int32)).toNatClampNeg) (xs (l3 + (3 : Int32)).toNatClampNeg) σ
def X_L_c17 (G : Lay) (xs : Nat → Int32) (L : Nat) (l1 l2 : Nat) (K : Int32 × Mem → Prop) (l3 : Int32) (σ : Mem) : Prop := vp_in (l3 + (1 : Int32)) L ∧ vp_in (l3 + (2 : Int32)) L ∧ X_X11_size G (fun w105 s104 => X_X12_size G (fun w107 s106 => ((w105 = w107 → K (l3 + 6, s106)) ∧ (¬ w105 = w107 → False))) l2 (xs (l3 + (1 : Int32)).toNatClampNeg) (xs (l3 + (2 : Int32)).toNatClampNeg) s104) l1 (xs (l3 + (1 : Int32)).toNatClampNeg) (xs (l3 + (2 : Int32)).toNatClampNeg) σ
def X_L_c18 (G : Lay) (xs : Nat → Int32) (L : Nat) (l1 l2 : Nat) (K : Int32 × Mem → Prop) (l3 : Int32) (σ : Mem) : Prop := vp_in (l3 + (1 : Int32)) L ∧ vp_in (l3 + (2 : Int32)) L ∧ vp_in (l3 + (3 : Int32)) L ∧ X_X11_item G (fun w112 s111 => X_X12_item G (fun w114 s113 => ((w112 = w114 → K (l3 + 6, s113)) ∧ (¬ w112 = w114 → False))) l2 (xs (l3 + (1 : Int32)).toNatClampNeg) (xs (l3 + (2 : Int32)).toNatClampNeg) (xs (l3 + (3 : Int32)).toNatClampNeg) s111) l1 (xs (l3 + (1 : Int32)).toNatClampNeg) (xs (l3 + (2 : Int32)).toNatClampNeg) (xs (l3 + (3 : Int32)).toNatClampNeg) σ
def X_L_c19 (G : Lay) (xs : Nat → Int32) (L : Nat) (l1 l2 : Nat) (K : Int32 × Mem → Prop) (l3 : Int32) (σ : Mem) : Prop := vp_in (l3 + (1 : Int32)) L ∧ X_X11_drop G (fun w117 s116 => X_X12_drop G (fun w119 s118 => ((w117 = w119 → K (l3 + 6, s118)) ∧ (¬ w117 = w119 → False))) l2 (xs (l3 + (1 : Int32)).toNatClampNeg) s116) l1 (xs (l3 + (1 : Int32)).toNatClampNeg) σ
def X_L_c20 (G : Lay) (xs : Nat → Int32) (L : Nat) (l1 l2 : Nat) (K : Int32 × Mem → Prop) (l3 : Int32) (σ : Mem) : Prop := vp_in (l3 + (1 : Int32)) L ∧ X_X11_loads G (fun w122 s121 => X_X12_loads G (fun w124 s123 => ((w122 = w124 → K (l3 + 6, s123)) ∧ (¬ w122 = w124 → False))) l2 (xs (l3 + (1 : Int32)).toNatClampNeg) s121) l1 (xs (l3 + (1 : Int32)).toNatClampNeg) σ
def X_L_c21 (G : Lay) (xs : Nat → Int32) (L : Nat) (l1 l2 : Nat) (K : Int32 × Mem → Prop) (l3 : Int32) (σ : Mem) : Prop := vp_in (l3 + (1 : Int32)) L ∧ vp_in (l3 + (2 : Int32)) L ∧ vp_in (l3 + (3 : Int32)) L ∧ vp_in (l3 + (4 : Int32)) L ∧ X_X11_other G (fun w130 s129 => X_X12_other G (fun w132 s131 => ((w130 = w132 → K (l3 + 6, s131)) ∧ (¬ w130 = w132 → False))) l2 (xs (l3 + (1 : Int32)).toNatClampNeg) (xs (l3 + (2 : Int32)).toNatClampNeg) (xs (l3 + (3 : Int32)).toNatClampNeg) (xs (l3 + (4 : Int32)).toNatClampNeg) s129) l1 (xs (l3 + (1 : Int32)).toNatClampNeg) (xs (l3 + (2 : Int32)).toNatClampNeg) (xs (l3 + (3 : Int32)).toNatClampNeg) (xs (l3 + (4 : Int32)).toNatClampNeg) σ
def X_L_c22 (G : Lay) (xs : Nat → Int32) (L : Nat) (l1 l2 : Nat) (K : Int32 × Mem → Prop) (l3 : Int32) (σ : Mem) : Prop := vp_in (l3 + (1 : Int32)) L ∧ vp_in (l3 + (2 : Int32)) L ∧ vp_in (l3 + (3 : Int32)) L ∧ X_X11_cell G (fun w137 s136 => X_X12_cell G (fun w139 s138 => (((lg_cmp w137 w139) = 0 → K (l3 + 6, s138)) ∧ (¬ (lg_cmp w137 w139) = 0 → False))) l2 (xs (l3 + (1 : Int32)).toNatClampNeg) (xs (l3 + (2 : Int32)).toNatClampNeg) (xs (l3 + (3 : Int32)).toNatClampNeg) s136) l1 (xs (l3 + (1 : Int32)).toNatClampNeg) (xs (l3 + (2 : Int32)).toNatClampNeg) (xs (l3 + (3 : Int32)).toNatClampNeg) σ
def X_L_c23 (G : Lay) (xs : Nat → Int32) (L : Nat) (l1 l2 : Nat) (K : Int32 × Mem → Prop) (l3 : Int32) (σ : Mem) : Prop := vp_in (l3 + (1 : Int32)) L ∧ X_X11_ask G (fun w142 s141 => X_X12_ask G (fun w144 s143 => ((w142 = w144 → K (l3 + 6, s143)) ∧ (¬ w142 = w144 → False))) l2 (xs (l3 + (1 : Int32)).toNatClampNeg) s141) l1 (xs (l3 + (1 : Int32)).toNatClampNeg) σ
def X_L_c24 (G : Lay) (xs : Nat → Int32) (L : Nat) (l1 l2 : Nat) (K : Int32 × Mem → Prop) (l3 : Int32) (σ : Mem) : Prop := vp_in (l3 + (1 : Int32)) L ∧ X_X11_found G (fun w147 s146 => X_X12_found G (fun w149 s148 => ((w147 = w149 → K (l3 + 6, s148)) ∧ (¬ w147 = w149 → False))) l2 (xs (l3 + (1 : Int32)).toNatClampNeg) s146) l1 (xs (l3 + (1 : Int32)).toNatClampNeg) σ
def X_L_c25 (G : Lay) (xs : Nat → Int32) (L : Nat) (l1 l2 : Nat) (K : Int32 × Mem → Prop) (l3 : Int32) (σ : Mem) : Prop := vp_in (l3 + (1 : Int32)) L ∧ X_X11_count G (fun w152 s151 => X_X12_count G (fun w154 s153 => ((w152 = w154 → K (l3 + 6, s153)) ∧ (¬ w152 = w154 → False))) l2 (xs (l3 + (1 : Int32)).toNatClampNeg) s151) l1 (xs (l3 + (1 : Int32)).toNatClampNeg) σ
def X_L_s (G : Lay) (xs : Nat → Int32) (L : Nat) (l1 l2 : Nat) (K : Int32 × Mem → Prop) : Int32 × Mem → Prop
  | (l3, σ) => ((Int32.ofNat L - (6 : Int32)) < l3 → True) ∧ (¬ (Int32.ofNat L - (6 : Int32)) < l3 → vp_in l3 L ∧ ((xs l3.toNatClampNeg &&& (31 : Int32)) = 0 → X_L_c0 G xs L l1 l2 K l3 σ) ∧ ((xs l3.toNatClampNeg &&& (31 : Int32)) = 1 → X_L_c1 G xs L l1 l2 K l3 σ) ∧ ((xs l3.toNatClampNeg &&& (31 : Int32)) = 2 → X_L_c2 G xs L l1 l2 K l3 σ) ∧ ((xs l3.toNatClampNeg &&& (31 : Int32)) = 3 → X_L_c3 G xs L l1 l2 K l3 σ) ∧ ((xs l3.toNatClampNeg &&& (31 : Int32)) = 4 → X_L_c4 G xs L l1 l2 K l3 σ) ∧ ((xs l3.toNatClampNeg &&& (31 : Int32)) = 5 → X_L_c5 G xs L l1 l2 K l3 σ) ∧ ((xs l3.toNatClampNeg &&& (31 : Int32)) = 6 → X_L_c6 G xs L l1 l2 K l3 σ) ∧ ((xs l3.toNatClampNeg &&& (31 : Int32)) = 7 → X_L_c7 G xs L l1 l2 K l3 σ) ∧ ((xs l3.toNatClampNeg &&& (31 : Int32)) = 8 → X_L_c8 G xs L l1 l2 K l3 σ) ∧ ((xs l3.toNatClampNeg &&& (31 : Int32)) = 9 → X_L_c9 G xs L l1 l2 K l3 σ) ∧ ((xs l3.toNatClampNeg &&& (31 : Int32)) = 10 → X_L_c10 G xs L l1 l2 K l3 σ) ∧ ((xs l3.toNatClampNeg &&& (31 : Int32)) = 11 → X_L_c11 G xs L l1 l2 K l3 σ) ∧ ((xs l3.toNatClampNeg &&& (31 : Int32)) = 12 → X_L_c12 G xs L l1 l2 K l3 σ) ∧ ((xs l3.toNatClampNeg &&& (31 : Int32)) = 13 → X_L_c13 G xs L l1 l2 K l3 σ) ∧ ((xs l3.toNatClampNeg &&& (31 : Int32)) = 14 → X_L_c14 G xs L l1 l2 K l3 σ) ∧ ((xs l3.toNatClampNeg &&& (31 : Int32)) = 15 → X_L_c15 G xs L l1 l2 K l3 σ) ∧ ((xs l3.toNatClampNeg &&& (31 : Int32)) = 16 → X_L_c16 G xs L l1 l2 K l3 σ) ∧ ((xs l3.toNatClampNeg &&& (31 : Int32)) = 17 → X_L_c17 G xs L l1 l2 K l3 σ) ∧ ((xs l3.toNatClampNeg &&& (31 : Int32)) = 18 → X_L_c18 G xs L l1 l2 K l3 σ) ∧ ((xs l3.toNatClampNeg &&& (31 : Int32)) = 19 → X_L_c19 G xs L l1 l2 K l3 σ) ∧ ((xs l3.toNatClampNeg &&& (31 : Int32)) = 20 → X_L_c20 G xs L l1 l2 K l3 σ) ∧ ((xs l3.toNatClampNeg &&& (31 : Int32)) = 21 → X_L_c21 G xs L l1 l2 K l3 σ) ∧ ((xs l3.toNatClampNeg &&& (31 : Int32)) = 22 → X_L_c22 G xs L l1 l2 K l3 σ) ∧ ((xs l3.toNatClampNeg &&& (31 : Int32)) = 23 → X_L_c23 G xs L l1 l2 K l3 σ) ∧ ((xs l3.toNatClampNeg &&& (31 : Int32)) = 24 → X_L_c24 G xs L l1 l2 K l3 σ) ∧ ((xs l3.toNatClampNeg &&& (31 : Int32)) = 25 → X_L_c25 G xs L l1 l2 K l3 σ) ∧ ((¬ (xs l3.toNatClampNeg &&& (31 : Int32)) = 0 ∧ ¬ (xs l3.toNatClampNeg &&& (31 : Int32)) = 1 ∧ ¬ (xs l3.toNatClampNeg &&& (31 : Int32)) = 2 ∧ ¬ (xs l3.toNatClampNeg &&& (31 : Int32)) = 3 ∧ ¬ (xs l3.toNatClampNeg &&& (31 : Int32)) = 4 ∧ ¬ (xs l3.toNatClampNeg &&& (31 : Int32)) = 5 ∧ ¬ (xs l3.toNatClampNeg &&& (31 : Int32)) = 6 ∧ ¬ (xs l3.toNatClampNeg &&& (31 : Int32)) = 7 ∧ ¬ (xs l3.toNatClampNeg &&& (31 : Int32)) = 8 ∧ ¬ (xs l3.toNatClampNeg &&& (31 : Int32)) = 9 ∧ ¬ (xs l3.toNatClampNeg &&& (31 : Int32)) = 10 ∧ ¬ (xs l3.toNatClampNeg &&& (31 : Int32)) = 11 ∧ ¬ (xs l3.toNatClampNeg &&& (31 : Int32)) = 12 ∧ ¬ (xs l3.toNatClampNeg &&& (31 : Int32)) = 13 ∧ ¬ (xs l3.toNatClampNeg &&& (31 : Int32)) = 14 ∧ ¬ (xs l3.toNatClampNeg &&& (31 : Int32)) = 15 ∧ ¬ (xs l3.toNatClampNeg &&& (31 : Int32)) = 16 ∧ ¬ (xs l3.toNatClampNeg &&& (31 : Int32)) = 17 ∧ ¬ (xs l3.toNatClampNeg &&& (31 : Int32)) = 18 ∧ ¬ (xs l3.toNatClampNeg &&& (31 : Int32)) = 19 ∧ ¬ (xs l3.toNatClampNeg &&& (31 : Int32)) = 20 ∧ ¬ (xs l3.toNatClampNeg &&& (31 : Int32)) = 21 ∧ ¬ (xs l3.toNatClampNeg &&& (31 : Int32)) = 22 ∧ ¬ (xs l3.toNatClampNeg &&& (31 : Int32)) = 23 ∧ ¬ (xs l3.toNatClampNeg &&& (31 : Int32)) = 24 ∧ ¬ (xs l3.toNatClampNeg &&& (31 : Int32)) = 25) → K (l3 + 6, σ)))
/-- what is left to prove: from the two fresh objects on, every script of L ints is answered alike -/
def X_L (G : Lay) (xs : Nat → Int32) (L : Nat) (l1 l2 : Nat) (σ : Mem) : Prop := Lw (X_L_s G xs L l1 l2) (0, σ)
