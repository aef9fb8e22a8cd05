/-! BetweenBoth$Steps.cell(II)I -/
theorem uw_X5_cell_X5 : ∀ w ∈ u_ws RX5 TX5 5, w ∈ wsX5_cell := by decide +kernel
theorem fl_X5_cell_11 : Cond.fieldLink RX5 11 "BetweenBoth$Steps" (TX5 0).2.1 (TX5 0).2.2.1 ∈ wsX5_cell := by decide +kernel
theorem hd_X5_cell : yX5_cell.cls = RX5 ∧ yX5_cell.cls ≠ "java/lang/invoke/MethodHandle" ∧ yX5_cell.cls ≠ "java/lang/invoke/VarHandle" ∧ (parseMethodDescriptor yX5_cell.desc).map (fun d => d.parameters.length) = some 2 := by decide +kernel
def RT_X5_cell (p : Program) (l : Launch) (e : Env) (s : State) (m : MethodId) (args : Array Value) (below : List Frame) (meth : Method) (c : Code) (Q : State → Prop) (A : Nat → Prop) (G : va_G) (cI cJ cZ cO : ClassId) (a_this : Nat) (a_cells : Nat) (u_clauses_ : Value) (u_count_ : Value) (u_lettersOfA_ : Value) (u_lettersOfB_ : Value) (cells_ : (Nat → Int32)) (res : Int32) : Prop := ∀ (v_ : Int32), some v_ = some res → ∀ (H : Heap) (locs : List Loc) (ls : Array Slot) (pc : Nat), decode cX5_cell pc = .ok (.ireturn, 1) → va_P G vwCl [(a_this, .inr (5, [.ref a_cells, u_clauses_, u_count_, u_lettersOfA_, u_lettersOfB_])), (a_cells, .inl (cI, 320, .inl cells_))] H → va_D A [(a_this, .inr (5, [.ref a_cells, u_clauses_, u_count_, u_lettersOfA_, u_lettersOfB_])), (a_cells, .inl (cI, 320, .inl cells_))] → va_S A s.heap H locs → W p l e ({ frames := 0, cells := 0, slots := 0, locals := 0 } : Room) s m args below meth c H locs 0 0 Q (F0 m pc ls [.int v_])
set_option maxHeartbeats 4000000 in
set_option maxRecDepth 100000 in
theorem w_X5_cell_0 {p : Program} {l : Launch} {e : Env} {s : State} {m : MethodId} {args : Array Value} {below : List Frame} {meth : Method} {c : Code} {Q : State → Prop} {A : Nat → Prop} {G : va_G} {cI cJ cZ cO : ClassId} {tS : Nat} (a_this : Nat) (a_cells : Nat) (u_clauses_ : Value) (u_count_ : Value) (u_lettersOfA_ : Value) (u_lettersOfB_ : Value) (cells_ : (Nat → Int32)) (hA : ∀ q : Nat, s.heap.size ≤ q → A q) (hK : va_K G vwCl (xTY cI cJ cZ cO) s) (hZ : xST tS A s) (M : CallFix p m c cX5_cell 3 s args wsX5_cell RX5) (res : Int32) (hR : RT_X5_cell p l e s m args below meth c Q A G cI cJ cZ cO a_this a_cells u_clauses_ u_count_ u_lettersOfA_ u_lettersOfB_ cells_ res)  (x1_ : Int32) (x2_ : Int32) (hf : f_X5_cell cells_ x1_ x2_ = some res) {H : Heap} {locs : List Loc} {ls : Array Slot} (hP : va_P G vwCl [(a_this, .inr (5, [.ref a_cells, u_clauses_, u_count_, u_lettersOfA_, u_lettersOfB_])), (a_cells, .inl (cI, 320, .inl cells_))] H) (hD : va_D A [(a_this, .inr (5, [.ref a_cells, u_clauses_, u_count_, u_lettersOfA_, u_lettersOfB_])), (a_cells, .inl (cI, 320, .inl cells_))]) (hS : va_S A s.heap H locs) (hl : lv_has ls 3 [(0, .ref a_this), (1, .int x1_), (2, .int x2_)]) : W p l e ({ frames := 0, cells := 0, slots := 0, locals := 0 } : Room) s m args below meth c H locs 0 0 Q (F0 m 0 ls []) := by
  obtain ⟨hx, hb, hml, hown, hts⟩ := id M
  unfold f_X5_cell at hf
  refine lv_aload_n hx hb dX5_cell_0 rfl (lv_at hl 0 rfl) ?_
  refine xget M (C := RX5) (T := TX5) (N := 5) (ci := 5) (v := .ref a_cells) uw_X5_cell_X5 hK hP 0 rfl rfl 0 (by decide) fl_X5_cell_11 rfl rfl dX5_cell_1 ?_
  refine lv_iload_n hx hb dX5_cell_4 rfl (lv_at hl 1 rfl) ?_
  refine lv_bipush (v := (8 : Int32)) hx hb dX5_cell_5 (by decide) ?_
  refine lv_imul hx hb dX5_cell_7 ?_
  refine lv_iload_n hx hb dX5_cell_8 rfl (lv_at hl 2 rfl) ?_
  refine lv_iadd hx hb dX5_cell_9 ?_
  obtain ⟨j1, hj1, hij1, hf⟩ := oA_e hf
  refine xiald M hK hP 1 0 rfl rfl hj1 hij1 dX5_cell_10 ?_
  exact hR _ hf _ _ _ _ dX5_cell_11 hP hD hS
set_option maxHeartbeats 4000000 in
set_option maxRecDepth 100000 in
theorem c_X5_cell (l : Launch) (G : va_G) (cI cJ cZ cO : ClassId) (tS sz : Nat) (a_this : Nat) (a_cells : Nat) (u_clauses_ : Value) (u_count_ : Value) (u_lettersOfA_ : Value) (u_lettersOfB_ : Value) (cells_ : (Nat → Int32)) (x1_ : Int32) (x2_ : Int32) (v_ : Int32) (hf : f_X5_cell cells_ x1_ x2_ = some v_) : Met l yX5_cell wsX5_cell ({ frames := 0, cells := 0, slots := 0, locals := 0 } : Room) (xPre G (xTY cI cJ cZ cO) tS [(a_this, .inr (5, [.ref a_cells, u_clauses_, u_count_, u_lettersOfA_, u_lettersOfB_])), (a_cells, .inl (cI, 320, .inl cells_))] sz [.ref a_this, .int x1_, .int x2_]) (xQi G [(a_this, .inr (5, [.ref a_cells, u_clauses_, u_count_, u_lettersOfA_, u_lettersOfB_])), (a_cells, .inl (cI, 320, .inl cells_))] sz (fun _ : Unit => [(a_this, .inr (5, [.ref a_cells, u_clauses_, u_count_, u_lettersOfA_, u_lettersOfB_])), (a_cells, .inl (cI, 320, .inl cells_))]) v_) 0 0 (va_A [(a_this, .inr (5, [.ref a_cells, u_clauses_, u_count_, u_lettersOfA_, u_lettersOfB_])), (a_cells, .inl (cI, 320, .inl cells_))] sz) := by
  refine xMet (cc := cX5_cell) (maxL := 3) (ret := (some .int)) (own := RX5) (by decide +kernel) rfl rfl (Nat.le_of_ble_eq_true rfl) rfl ?_
  intro p e s m below meth c ls M hr hlk hin hsz hA hK hZ hP hD hl
  refine w_X5_cell_0 a_this a_cells u_clauses_ u_count_ u_lettersOfA_ u_lettersOfB_ cells_ hA hK hZ M v_ (fun v_' hres H locs ls pc hd hP hD hS => ?_)  x1_ x2_ hf hP hD va_S.rf hl
  cases hres
  exact xreti (W1 := fun _ : Unit => [(a_this, .inr (5, [.ref a_cells, u_clauses_, u_count_, u_lettersOfA_, u_lettersOfB_])), (a_cells, .inl (cI, 320, .inl cells_))]) M hr hlk () hP hD hS hd
/-! BetweenBoth$Worlds.whereSo(II)J -/
theorem kc_X8_whereSo_15 : Cond.constantLong RX8 15 (-1) ∈ wsX8_whereSo := by decide +kernel
theorem fs_X8_whereSo_11 : Cond.fieldLink RX8 11 "BetweenBoth$Worlds" "SO_WITHIN" "[J" ∈ wsX8_whereSo := by decide +kernel
theorem hd_X8_whereSo : yX8_whereSo.cls ≠ "java/lang/invoke/MethodHandle" ∧ yX8_whereSo.cls ≠ "java/lang/invoke/VarHandle" ∧ (parseMethodDescriptor yX8_whereSo.desc).map (fun d => d.parameters.length) = some 2 := by decide +kernel
def RT_X8_whereSo (p : Program) (l : Launch) (e : Env) (s : State) (m : MethodId) (args : Array Value) (below : List Frame) (meth : Method) (c : Code) (Q : State → Prop) (A : Nat → Prop) (G : va_G) (cI cJ cZ cO : ClassId)  (res : Int64) : Prop := ∀ (v_ : Int64), some v_ = some res → ∀ (H : Heap) (locs : List Loc) (ls : Array Slot) (pc : Nat), decode cX8_whereSo pc = .ok (.lreturn, 1) → va_P G vwCl [] H → va_D A [] → va_S A s.heap H locs → W p l e ({ frames := 0, cells := 0, slots := 0, locals := 0 } : Room) s m args below meth c H locs 0 0 Q (F0 m pc ls [.long v_])
set_option maxHeartbeats 4000000 in
set_option maxRecDepth 100000 in
theorem w_X8_whereSo_0 {p : Program} {l : Launch} {e : Env} {s : State} {m : MethodId} {args : Array Value} {below : List Frame} {meth : Method} {c : Code} {Q : State → Prop} {A : Nat → Prop} {G : va_G} {cI cJ cZ cO : ClassId} {tS : Nat}  (hA : ∀ q : Nat, s.heap.size ≤ q → A q) (hK : va_K G vwCl (xTY cI cJ cZ cO) s) (hZ : xST tS A s) (M : CallFix p m c cX8_whereSo 2 s args wsX8_whereSo RX8) (res : Int64) (hR : RT_X8_whereSo p l e s m args below meth c Q A G cI cJ cZ cO  res)  (x0_ : Int32) (x1_ : Int32) (hf : f_X8_whereSo x0_ x1_ = some res) {H : Heap} {locs : List Loc} {ls : Array Slot} (hP : va_P G vwCl [] H) (hD : va_D A []) (hS : va_S A s.heap H locs) (hl : lv_has ls 2 [(0, .int x0_), (1, .int x1_)]) : W p l e ({ frames := 0, cells := 0, slots := 0, locals := 0 } : Room) s m args below meth c H locs 0 0 Q (F0 m 0 ls []) := by
  obtain ⟨hx, hb, hml, hown, hts⟩ := id M
  unfold f_X8_whereSo at hf
  refine lv_iload_n hx hb dX8_whereSo_0 rfl (lv_at hl 0 rfl) ?_
  refine lv_bipush (v := (6 : Int32)) hx hb dX8_whereSo_1 (by decide) ?_
  refine lv_icmp_ge (tgt := 12) hx hb dX8_whereSo_3 (by decide) (fun hc1 => ?_) (fun hc1 => ?_)
  · have hf := oI_t hc1 hf
    refine lv_iload_n hx hb dX8_whereSo_12 rfl (lv_at hl 1 rfl) ?_
    refine lv_iload_n hx hb dX8_whereSo_13 rfl (lv_at hl 0 rfl) ?_
    refine lv_bipush (v := (6 : Int32)) hx hb dX8_whereSo_14 (by decide) ?_
    refine lv_isub hx hb dX8_whereSo_16 ?_
    refine lv_ishr hx hb dX8_whereSo_17 ?_
    refine lv_iconst (v := (1 : Int32)) hx hb dX8_whereSo_18 (by decide) ?_
    refine lv_iand hx hb dX8_whereSo_19 ?_
    refine lv_iconst (v := (1 : Int32)) hx hb dX8_whereSo_20 (by decide) ?_
    refine lv_icmp_ne (tgt := 30) hx hb dX8_whereSo_21 (by decide) (fun hc2 => ?_) (fun hc2 => ?_)
    · have hf := oI_f hc2 hf
      refine lv_lconst (v := (0 : Int64)) hx hb dX8_whereSo_30 (by decide) ?_
      exact hR _ hf _ _ _ _ dX8_whereSo_31 hP hD hS
    · have hf := oI_t hc2 hf
      refine lv_ldc2 (v := (-1)) hx hb hown (hts _ kc_X8_whereSo_15) dX8_whereSo_24 ?_
      refine lv_goto (tgt := 31) hx hb dX8_whereSo_27 (by decide) ?_
      exact hR _ hf _ _ _ _ dX8_whereSo_31 hP hD hS
  · have hf := oI_f hc1 hf
    refine va_gets hx hb hZ.1 hS hown (hts _ fs_X8_whereSo_11) (fun _ h => h) dX8_whereSo_6 ?_
    refine lv_iload_n hx hb dX8_whereSo_9 rfl (lv_at hl 0 rfl) ?_
    obtain ⟨j3, hj3, hij3, hf⟩ := oA_e hf
    refine xtl M hZ hS hj3 hij3 dX8_whereSo_10 ?_
    exact hR _ hf _ _ _ _ dX8_whereSo_11 hP hD hS
set_option maxHeartbeats 4000000 in
set_option maxRecDepth 100000 in
theorem c_X8_whereSo (l : Launch) (G : va_G) (cI cJ cZ cO : ClassId) (tS sz : Nat)   (x0_ : Int32) (x1_ : Int32) (v_ : Int64) (hf : f_X8_whereSo x0_ x1_ = some v_) : Met l yX8_whereSo wsX8_whereSo ({ frames := 0, cells := 0, slots := 0, locals := 0 } : Room) (xPre G (xTY cI cJ cZ cO) tS [] sz [.int x0_, .int x1_]) (xQl G [] sz (fun _ : Unit => []) v_) 0 0 (va_A [] sz) := by
  refine xMet (cc := cX8_whereSo) (maxL := 2) (ret := (some .long)) (own := RX8) (by decide +kernel) rfl rfl (Nat.le_of_ble_eq_true rfl) rfl ?_
  intro p e s m below meth c ls M hr hlk hin hsz hA hK hZ hP hD hl
  refine w_X8_whereSo_0  hA hK hZ M v_ (fun v_' hres H locs ls pc hd hP hD hS => ?_)  x0_ x1_ hf hP hD va_S.rf hl
  cases hres
  exact xretl (W1 := fun _ : Unit => []) M hr hlk () hP hD hS hd
/-! BetweenBoth$Worlds.whereClauseHolds(III)J -/
theorem kc_X8_whereClauseHolds_15 : Cond.constantLong RX8 15 (-1) ∈ wsX8_whereClauseHolds := by decide +kernel
theorem hd_X8_whereClauseHolds : yX8_whereClauseHolds.cls ≠ "java/lang/invoke/MethodHandle" ∧ yX8_whereClauseHolds.cls ≠ "java/lang/invoke/VarHandle" ∧ (parseMethodDescriptor yX8_whereClauseHolds.desc).map (fun d => d.parameters.length) = some 3 := by decide +kernel
def RT_X8_whereClauseHolds (p : Program) (l : Launch) (e : Env) (s : State) (m : MethodId) (args : Array Value) (below : List Frame) (meth : Method) (c : Code) (Q : State → Prop) (A : Nat → Prop) (G : va_G) (cI cJ cZ cO : ClassId)  (res : Int64) : Prop := ∀ (v_ : Int64), some v_ = some res → ∀ (H : Heap) (locs : List Loc) (ls : Array Slot) (pc : Nat), decode cX8_whereClauseHolds pc = .ok (.lreturn, 1) → va_P G vwCl [] H → va_D A [] → va_S A s.heap H locs → W p l e ({ frames := 1, cells := 0, slots := 0, locals := 21 } : Room) s m args below meth c H locs 0 0 Q (F0 m pc ls [.long v_])
set_option maxHeartbeats 4000000 in
set_option maxRecDepth 100000 in
theorem w_X8_whereClauseHolds_54 {p : Program} {l : Launch} {e : Env} {s : State} {m : MethodId} {args : Array Value} {below : List Frame} {meth : Method} {c : Code} {Q : State → Prop} {A : Nat → Prop} {G : va_G} {cI cJ cZ cO : ClassId} {tS : Nat}  (hA : ∀ q : Nat, s.heap.size ≤ q → A q) (hK : va_K G vwCl (xTY cI cJ cZ cO) s) (hZ : xST tS A s) (M : CallFix p m c cX8_whereClauseHolds 6 s args wsX8_whereClauseHolds RX8) (res : Int64) (hR : RT_X8_whereClauseHolds p l e s m args below meth c Q A G cI cJ cZ cO  res) (x0_ : Int32) (x1_ : Int32) (x2_ : Int32) (x3_ : Int64) (x5_ : Int32) (k5 : (Int64 × Int32) → Option (Int64)) (hk5 : ∀ (x3_ : Int64) (x5_ : Int32), k5 (x3_, x5_) = some res → ∀ {H : Heap} {locs : List Loc} {ls : Array Slot}, va_P G vwCl [] H → va_D A [] → va_S A s.heap H locs → lv_has ls 6 [(0, .int x0_), (1, .int x1_), (2, .int x2_), (3, .long x3_), (5, .int x5_)] → W p l e ({ frames := 1, cells := 0, slots := 0, locals := 21 } : Room) s m args below meth c H locs 0 0 Q (F0 m 5 ls [])) (hf : f_X8_whereClauseHolds_54 x3_ x5_ k5 = some res) {H : Heap} {locs : List Loc} {ls : Array Slot} (hP : va_P G vwCl [] H) (hD : va_D A []) (hS : va_S A s.heap H locs) (hl : lv_has ls 6 [(0, .int x0_), (1, .int x1_), (2, .int x2_), (3, .long x3_), (5, .int x5_)]) : W p l e ({ frames := 1, cells := 0, slots := 0, locals := 21 } : Room) s m args below meth c H locs 0 0 Q (F0 m 54 ls []) := by
  obtain ⟨hx, hb, hml, hown, hts⟩ := id M
  unfold f_X8_whereClauseHolds_54 at hf
  obtain ⟨x5_1, ex5_1, hf⟩ := oL_e hf
  refine lv_iinc (v := x5_1) (lv' := [(5, .int x5_1), (0, .int x0_), (1, .int x1_), (2, .int x2_), (3, .long x3_)]) hx hb dX8_whereClauseHolds_54 hl (k := 4) rfl (by rw [← ex5_1]; rfl) (by decide) rfl (fun ls hl => ?_)
  refine lv_goto (tgt := 5) hx hb dX8_whereClauseHolds_57 (by decide) ?_
  exact hk5 _ _ hf hP hD hS (lv_sub hl [1, 2, 3, 4, 0] rfl)
set_option maxHeartbeats 4000000 in
set_option maxRecDepth 100000 in
theorem w_X8_whereClauseHolds_31 {p : Program} {l : Launch} {e : Env} {s : State} {m : MethodId} {args : Array Value} {below : List Frame} {meth : Method} {c : Code} {Q : State → Prop} {A : Nat → Prop} {G : va_G} {cI cJ cZ cO : ClassId} {tS : Nat}  (hA : ∀ q : Nat, s.heap.size ≤ q → A q) (hK : va_K G vwCl (xTY cI cJ cZ cO) s) (hZ : xST tS A s) (M : CallFix p m c cX8_whereClauseHolds 6 s args wsX8_whereClauseHolds RX8) (res : Int64) (hR : RT_X8_whereClauseHolds p l e s m args below meth c Q A G cI cJ cZ cO  res) (x0_ : Int32) (x1_ : Int32) (x2_ : Int32) (x3_ : Int64) (x5_ : Int32) (k5 : (Int64 × Int32) → Option (Int64)) (hk5 : ∀ (x3_ : Int64) (x5_ : Int32), k5 (x3_, x5_) = some res → ∀ {H : Heap} {locs : List Loc} {ls : Array Slot}, va_P G vwCl [] H → va_D A [] → va_S A s.heap H locs → lv_has ls 6 [(0, .int x0_), (1, .int x1_), (2, .int x2_), (3, .long x3_), (5, .int x5_)] → W p l e ({ frames := 1, cells := 0, slots := 0, locals := 21 } : Room) s m args below meth c H locs 0 0 Q (F0 m 5 ls [])) (hf : f_X8_whereClauseHolds_31 x1_ x2_ x3_ x5_ k5 = some res) {H : Heap} {locs : List Loc} {ls : Array Slot} (hP : va_P G vwCl [] H) (hD : va_D A []) (hS : va_S A s.heap H locs) (hl : lv_has ls 6 [(0, .int x0_), (1, .int x1_), (2, .int x2_), (3, .long x3_), (5, .int x5_)]) : W p l e ({ frames := 1, cells := 0, slots := 0, locals := 21 } : Room) s m args below meth c H locs 0 0 Q (F0 m 31 ls []) := by
  obtain ⟨hx, hb, hml, hown, hts⟩ := id M
  unfold f_X8_whereClauseHolds_31 at hf
  refine lv_iload_n hx hb dX8_whereClauseHolds_31 rfl (lv_at hl 1 rfl) ?_
  refine lv_iload hx hb dX8_whereClauseHolds_32 (lv_at hl 4 rfl) ?_
  refine lv_ishr hx hb dX8_whereClauseHolds_34 ?_
  refine lv_iconst (v := (1 : Int32)) hx hb dX8_whereClauseHolds_35 (by decide) ?_
  refine lv_iand hx hb dX8_whereClauseHolds_36 ?_
  refine lv_iconst (v := (1 : Int32)) hx hb dX8_whereClauseHolds_37 (by decide) ?_
  refine lv_icmp_ne (tgt := 54) hx hb dX8_whereClauseHolds_38 (by decide) (fun hc1 => ?_) (fun hc1 => ?_)
  · have hf := oI_f hc1 hf
    exact w_X8_whereClauseHolds_54  hA hK hZ M res hR x0_ x1_ x2_ x3_ x5_ k5 hk5 hf hP hD hS (lv_sub hl [0, 1, 2, 3, 4] rfl)
  · have hf := oI_t hc1 hf
    refine lv_lload_n hx hb dX8_whereClauseHolds_41 rfl (lv_at hl 3 rfl) ?_
    refine lv_iload hx hb dX8_whereClauseHolds_42 (lv_at hl 4 rfl) ?_
    refine lv_iload_n hx hb dX8_whereClauseHolds_44 rfl (lv_at hl 2 rfl) ?_
    obtain ⟨r2, hq3, hf⟩ := oB1_e hf
    refine xcl (wr := []) (ws' := fun _ => []) hA hP hD hS (xrS (As := [.int x5_, .int x2_]) (rest := [.long x3_]) M hA hK hZ hP hD hS (c_X8_whereSo l G cI cJ cZ cO tS H.size x5_ x2_ r2 hq3) (va_cwS 2 hts gX8_whereClauseHolds_X8_whereSo rfl rfl rfl hd_X8_whereSo ⟨Nat.le_of_ble_eq_true rfl, Nat.le_of_ble_eq_true rfl⟩) [] rfl rfl rfl hl.1 rfl (Nat.le_of_ble_eq_true rfl) dX8_whereClauseHolds_45 ⟨Nat.le_of_ble_eq_true rfl, Nat.le_of_ble_eq_true rfl⟩) [] [] [] rfl rfl rfl rfl (fun _ => rfl) rfl (fun _ H locs hP hD hS => ?_)
    refine lv_ldc2 (v := (-1)) hx hb hown (hts _ kc_X8_whereClauseHolds_15) dX8_whereClauseHolds_48 ?_
    refine lv_lxor hx hb dX8_whereClauseHolds_51 ?_
    refine lv_lor hx hb dX8_whereClauseHolds_52 ?_
    obtain ⟨x3_4, ex3_4, hf⟩ := oL_e hf
    refine xtopl ex3_4 ?_
    refine lv_lstore_n (lv' := [(3, .long x3_4), (0, .int x0_), (1, .int x1_), (2, .int x2_), (5, .int x5_)]) hx hb dX8_whereClauseHolds_53 rfl hl (by decide) rfl (fun ls hl => ?_)
    exact w_X8_whereClauseHolds_54  hA hK hZ M res hR x0_ x1_ x2_ x3_4 x5_ k5 hk5 hf hP hD hS (lv_sub hl [1, 2, 3, 0, 4] rfl)
set_option maxHeartbeats 4000000 in
set_option maxRecDepth 100000 in
theorem wb_X8_whereClauseHolds_5 {p : Program} {l : Launch} {e : Env} {s : State} {m : MethodId} {args : Array Value} {below : List Frame} {meth : Method} {c : Code} {Q : State → Prop} {A : Nat → Prop} {G : va_G} {cI cJ cZ cO : ClassId} {tS : Nat}  (hA : ∀ q : Nat, s.heap.size ≤ q → A q) (hK : va_K G vwCl (xTY cI cJ cZ cO) s) (hZ : xST tS A s) (M : CallFix p m c cX8_whereClauseHolds 6 s args wsX8_whereClauseHolds RX8) (res : Int64) (hR : RT_X8_whereClauseHolds p l e s m args below meth c Q A G cI cJ cZ cO  res) (x0_ : Int32) (x1_ : Int32) (x2_ : Int32)  (k5 : (Int64 × Int32) → Option (Int64)) (hk5 : ∀ (x3_ : Int64) (x5_ : Int32), k5 (x3_, x5_) = some res → ∀ {H : Heap} {locs : List Loc} {ls : Array Slot}, va_P G vwCl [] H → va_D A [] → va_S A s.heap H locs → lv_has ls 6 [(0, .int x0_), (1, .int x1_), (2, .int x2_), (3, .long x3_), (5, .int x5_)] → W p l e ({ frames := 1, cells := 0, slots := 0, locals := 21 } : Room) s m args below meth c H locs 0 0 Q (F0 m 5 ls [])) (x3_ : Int64) (x5_ : Int32) (hf : b_X8_whereClauseHolds_5 x0_ x1_ x2_ k5 x3_ x5_ = some res) {H : Heap} {locs : List Loc} {ls : Array Slot} (hP : va_P G vwCl [] H) (hD : va_D A []) (hS : va_S A s.heap H locs) (hl : lv_has ls 6 [(0, .int x0_), (1, .int x1_), (2, .int x2_), (3, .long x3_), (5, .int x5_)]) : W p l e ({ frames := 1, cells := 0, slots := 0, locals := 21 } : Room) s m args below meth c H locs 0 0 Q (F0 m 5 ls []) := by
  obtain ⟨hx, hb, hml, hown, hts⟩ := id M
  unfold b_X8_whereClauseHolds_5 at hf
  refine lv_iload hx hb dX8_whereClauseHolds_5 (lv_at hl 4 rfl) ?_
  refine lv_bipush (v := (8 : Int32)) hx hb dX8_whereClauseHolds_7 (by decide) ?_
  refine lv_icmp_ge (tgt := 60) hx hb dX8_whereClauseHolds_9 (by decide) (fun hc1 => ?_) (fun hc1 => ?_)
  · have hf := oI_t hc1 hf
    refine lv_lload_n hx hb dX8_whereClauseHolds_60 rfl (lv_at hl 3 rfl) ?_
    exact hR _ hf _ _ _ _ dX8_whereClauseHolds_61 hP hD hS
  · have hf := oI_f hc1 hf
    refine lv_iload_n hx hb dX8_whereClauseHolds_12 rfl (lv_at hl 0 rfl) ?_
    refine lv_iload hx hb dX8_whereClauseHolds_13 (lv_at hl 4 rfl) ?_
    refine lv_ishr hx hb dX8_whereClauseHolds_15 ?_
    refine lv_iconst (v := (1 : Int32)) hx hb dX8_whereClauseHolds_16 (by decide) ?_
    refine lv_iand hx hb dX8_whereClauseHolds_17 ?_
    refine lv_iconst (v := (1 : Int32)) hx hb dX8_whereClauseHolds_18 (by decide) ?_
    refine lv_icmp_ne (tgt := 31) hx hb dX8_whereClauseHolds_19 (by decide) (fun hc2 => ?_) (fun hc2 => ?_)
    · have hf := oI_f hc2 hf
      exact w_X8_whereClauseHolds_31  hA hK hZ M res hR x0_ x1_ x2_ x3_ x5_ k5 hk5 hf hP hD hS (lv_sub hl [0, 1, 2, 3, 4] rfl)
    · have hf := oI_t hc2 hf
      refine lv_lload_n hx hb dX8_whereClauseHolds_22 rfl (lv_at hl 3 rfl) ?_
      refine lv_iload hx hb dX8_whereClauseHolds_23 (lv_at hl 4 rfl) ?_
      refine lv_iload_n hx hb dX8_whereClauseHolds_25 rfl (lv_at hl 2 rfl) ?_
      obtain ⟨r3, hq4, hf⟩ := oB1_e hf
      refine xcl (wr := []) (ws' := fun _ => []) hA hP hD hS (xrS (As := [.int x5_, .int x2_]) (rest := [.long x3_]) M hA hK hZ hP hD hS (c_X8_whereSo l G cI cJ cZ cO tS H.size x5_ x2_ r3 hq4) (va_cwS 2 hts gX8_whereClauseHolds_X8_whereSo rfl rfl rfl hd_X8_whereSo ⟨Nat.le_of_ble_eq_true rfl, Nat.le_of_ble_eq_true rfl⟩) [] rfl rfl rfl hl.1 rfl (Nat.le_of_ble_eq_true rfl) dX8_whereClauseHolds_26 ⟨Nat.le_of_ble_eq_true rfl, Nat.le_of_ble_eq_true rfl⟩) [] [] [] rfl rfl rfl rfl (fun _ => rfl) rfl (fun _ H locs hP hD hS => ?_)
      refine lv_lor hx hb dX8_whereClauseHolds_29 ?_
      obtain ⟨x3_5, ex3_5, hf⟩ := oL_e hf
      refine xtopl ex3_5 ?_
      refine lv_lstore_n (lv' := [(3, .long x3_5), (0, .int x0_), (1, .int x1_), (2, .int x2_), (5, .int x5_)]) hx hb dX8_whereClauseHolds_30 rfl hl (by decide) rfl (fun ls hl => ?_)
      exact w_X8_whereClauseHolds_31  hA hK hZ M res hR x0_ x1_ x2_ x3_5 x5_ k5 hk5 hf hP hD hS (lv_sub hl [1, 2, 3, 0, 4] rfl)
set_option maxHeartbeats 4000000 in
set_option maxRecDepth 100000 in
theorem wl_X8_whereClauseHolds_5 {p : Program} {l : Launch} {e : Env} {s : State} {m : MethodId} {args : Array Value} {below : List Frame} {meth : Method} {c : Code} {Q : State → Prop} {A : Nat → Prop} {G : va_G} {cI cJ cZ cO : ClassId} {tS : Nat}  (hA : ∀ q : Nat, s.heap.size ≤ q → A q) (hK : va_K G vwCl (xTY cI cJ cZ cO) s) (hZ : xST tS A s) (M : CallFix p m c cX8_whereClauseHolds 6 s args wsX8_whereClauseHolds RX8) (res : Int64) (hR : RT_X8_whereClauseHolds p l e s m args below meth c Q A G cI cJ cZ cO  res) (x0_ : Int32) (x1_ : Int32) (x2_ : Int32)  (n : Nat) : ∀ (x3_ : Int64) (x5_ : Int32), oF (fun k z => b_X8_whereClauseHolds_5 x0_ x1_ x2_ k z.1 z.2) n (x3_, x5_) = some res → ∀ {H : Heap} {locs : List Loc} {ls : Array Slot}, va_P G vwCl [] H → va_D A [] → va_S A s.heap H locs → lv_has ls 6 [(0, .int x0_), (1, .int x1_), (2, .int x2_), (3, .long x3_), (5, .int x5_)] → W p l e ({ frames := 1, cells := 0, slots := 0, locals := 21 } : Room) s m args below meth c H locs 0 0 Q (F0 m 5 ls []) := by
  induction n with
  | zero => intro x3_ x5_ hf; cases hf
  | succ n ih =>
    intro x3_ x5_ hf H locs ls hP hD hS hl
    exact wb_X8_whereClauseHolds_5  hA hK hZ M res hR x0_ x1_ x2_  _ ih x3_ x5_ hf hP hD hS hl
set_option maxHeartbeats 4000000 in
set_option maxRecDepth 100000 in
theorem w_X8_whereClauseHolds_0 {p : Program} {l : Launch} {e : Env} {s : State} {m : MethodId} {args : Array Value} {below : List Frame} {meth : Method} {c : Code} {Q : State → Prop} {A : Nat → Prop} {G : va_G} {cI cJ cZ cO : ClassId} {tS : Nat}  (hA : ∀ q : Nat, s.heap.size ≤ q → A q) (hK : va_K G vwCl (xTY cI cJ cZ cO) s) (hZ : xST tS A s) (M : CallFix p m c cX8_whereClauseHolds 6 s args wsX8_whereClauseHolds RX8) (res : Int64) (hR : RT_X8_whereClauseHolds p l e s m args below meth c Q A G cI cJ cZ cO  res)  (x0_ : Int32) (x1_ : Int32) (x2_ : Int32) (hf : f_X8_whereClauseHolds x0_ x1_ x2_ = some res) {H : Heap} {locs : List Loc} {ls : Array Slot} (hP : va_P G vwCl [] H) (hD : va_D A []) (hS : va_S A s.heap H locs) (hl : lv_has ls 6 [(0, .int x0_), (1, .int x1_), (2, .int x2_)]) : W p l e ({ frames := 1, cells := 0, slots := 0, locals := 21 } : Room) s m args below meth c H locs 0 0 Q (F0 m 0 ls []) := by
  obtain ⟨hx, hb, hml, hown, hts⟩ := id M
  unfold f_X8_whereClauseHolds at hf
  refine lv_lconst (v := (0 : Int64)) hx hb dX8_whereClauseHolds_0 (by decide) ?_
  refine lv_lstore_n (lv' := [(3, .long (0 : Int64)), (0, .int x0_), (1, .int x1_), (2, .int x2_)]) hx hb dX8_whereClauseHolds_1 rfl hl (by decide) rfl (fun ls hl => ?_)
  refine lv_iconst (v := (0 : Int32)) hx hb dX8_whereClauseHolds_2 (by decide) ?_
  refine lv_istore (lv' := [(5, .int (0 : Int32)), (3, .long (0 : Int64)), (0, .int x0_), (1, .int x1_), (2, .int x2_)]) hx hb dX8_whereClauseHolds_3 hl (by decide) rfl (fun ls hl => ?_)
  exact wl_X8_whereClauseHolds_5  hA hK hZ M res hR x0_ x1_ x2_  xN (0 : Int64) (0 : Int32) hf hP hD hS (lv_sub hl [2, 3, 4, 1, 0] rfl)
set_option maxHeartbeats 4000000 in
set_option maxRecDepth 100000 in
theorem c_X8_whereClauseHolds (l : Launch) (G : va_G) (cI cJ cZ cO : ClassId) (tS sz : Nat)   (x0_ : Int32) (x1_ : Int32) (x2_ : Int32) (v_ : Int64) (hf : f_X8_whereClauseHolds x0_ x1_ x2_ = some v_) : Met l yX8_whereClauseHolds wsX8_whereClauseHolds ({ frames := 1, cells := 0, slots := 0, locals := 21 } : Room) (xPre G (xTY cI cJ cZ cO) tS [] sz [.int x0_, .int x1_, .int x2_]) (xQl G [] sz (fun _ : Unit => []) v_) 0 0 (va_A [] sz) := by
  refine xMet (cc := cX8_whereClauseHolds) (maxL := 6) (ret := (some .long)) (own := RX8) (by decide +kernel) rfl rfl (Nat.le_of_ble_eq_true rfl) rfl ?_
  intro p e s m below meth c ls M hr hlk hin hsz hA hK hZ hP hD hl
  refine w_X8_whereClauseHolds_0  hA hK hZ M v_ (fun v_' hres H locs ls pc hd hP hD hS => ?_)  x0_ x1_ x2_ hf hP hD va_S.rf hl
  cases hres
  exact xretl (W1 := fun _ : Unit => []) M hr hlk () hP hD hS hd
/-! BetweenBoth$Look.whereAllHold(LBetweenBoth$Steps;II)J -/
theorem uw_X1_whereAllHold_X5 : ∀ w ∈ u_ws RX5 TX5 5, w ∈ wsX1_whereAllHold := by decide +kernel
theorem fl_X1_whereAllHold_22 : Cond.fieldLink RX1 22 "BetweenBoth$Steps" (TX5 1).2.1 (TX5 1).2.2.1 ∈ wsX1_whereAllHold := by decide +kernel
theorem kc_X1_whereAllHold_20 : Cond.constantLong RX1 20 (-1) ∈ wsX1_whereAllHold := by decide +kernel
theorem hd_X1_whereAllHold : yX1_whereAllHold.cls ≠ "java/lang/invoke/MethodHandle" ∧ yX1_whereAllHold.cls ≠ "java/lang/invoke/VarHandle" ∧ (parseMethodDescriptor yX1_whereAllHold.desc).map (fun d => d.parameters.length) = some 3 := by decide +kernel
def RT_X1_whereAllHold (p : Program) (l : Launch) (e : Env) (s : State) (m : MethodId) (args : Array Value) (below : List Frame) (meth : Method) (c : Code) (Q : State → Prop) (A : Nat → Prop) (G : va_G) (cI cJ cZ cO : ClassId) (a_p0 : Nat) (a_p0_cells : Nat) (u_p0_count_ : Value) (u_p0_lettersOfA_ : Value) (u_p0_lettersOfB_ : Value) (p0_clauses_ : Int32) (p0_cells_ : (Nat → Int32)) (res : Int64) : Prop := ∀ (v_ : Int64), some v_ = some res → ∀ (H : Heap) (locs : List Loc) (ls : Array Slot) (pc : Nat), decode cX1_whereAllHold pc = .ok (.lreturn, 1) → va_P G vwCl [(a_p0, .inr (5, [.ref a_p0_cells, .int p0_clauses_, u_p0_count_, u_p0_lettersOfA_, u_p0_lettersOfB_])), (a_p0_cells, .inl (cI, 320, .inl p0_cells_))] H → va_D A [(a_p0, .inr (5, [.ref a_p0_cells, .int p0_clauses_, u_p0_count_, u_p0_lettersOfA_, u_p0_lettersOfB_])), (a_p0_cells, .inl (cI, 320, .inl p0_cells_))] → va_S A s.heap H locs → W p l e ({ frames := 2, cells := 0, slots := 0, locals := 46 } : Room) s m args below meth c H locs 0 0 Q (F0 m pc ls [.long v_])
set_option maxHeartbeats 4000000 in
set_option maxRecDepth 100000 in
theorem w_X1_whereAllHold_53 {p : Program} {l : Launch} {e : Env} {s : State} {m : MethodId} {args : Array Value} {below : List Frame} {meth : Method} {c : Code} {Q : State → Prop} {A : Nat → Prop} {G : va_G} {cI cJ cZ cO : ClassId} {tS : Nat} (a_p0 : Nat) (a_p0_cells : Nat) (u_p0_count_ : Value) (u_p0_lettersOfA_ : Value) (u_p0_lettersOfB_ : Value) (p0_clauses_ : Int32) (p0_cells_ : (Nat → Int32)) (hA : ∀ q : Nat, s.heap.size ≤ q → A q) (hK : va_K G vwCl (xTY cI cJ cZ cO) s) (hZ : xST tS A s) (M : CallFix p m c cX1_whereAllHold 6 s args wsX1_whereAllHold RX1) (res : Int64) (hR : RT_X1_whereAllHold p l e s m args below meth c Q A G cI cJ cZ cO a_p0 a_p0_cells u_p0_count_ u_p0_lettersOfA_ u_p0_lettersOfB_ p0_clauses_ p0_cells_ res) (x1_ : Int32) (x2_ : Int32) (x3_ : Int64) (x5_ : Int32) (k7 : (Int64 × Int32) → Option (Int64)) (hk7 : ∀ (x3_ : Int64) (x5_ : Int32), k7 (x3_, x5_) = some res → ∀ {H : Heap} {locs : List Loc} {ls : Array Slot}, va_P G vwCl [(a_p0, .inr (5, [.ref a_p0_cells, .int p0_clauses_, u_p0_count_, u_p0_lettersOfA_, u_p0_lettersOfB_])), (a_p0_cells, .inl (cI, 320, .inl p0_cells_))] H → va_D A [(a_p0, .inr (5, [.ref a_p0_cells, .int p0_clauses_, u_p0_count_, u_p0_lettersOfA_, u_p0_lettersOfB_])), (a_p0_cells, .inl (cI, 320, .inl p0_cells_))] → va_S A s.heap H locs → lv_has ls 6 [(0, .ref a_p0), (1, .int x1_), (2, .int x2_), (3, .long x3_), (5, .int x5_)] → W p l e ({ frames := 2, cells := 0, slots := 0, locals := 46 } : Room) s m args below meth c H locs 0 0 Q (F0 m 7 ls [])) (hf : f_X1_whereAllHold_53 x3_ x5_ k7 = some res) {H : Heap} {locs : List Loc} {ls : Array Slot} (hP : va_P G vwCl [(a_p0, .inr (5, [.ref a_p0_cells, .int p0_clauses_, u_p0_count_, u_p0_lettersOfA_, u_p0_lettersOfB_])), (a_p0_cells, .inl (cI, 320, .inl p0_cells_))] H) (hD : va_D A [(a_p0, .inr (5, [.ref a_p0_cells, .int p0_clauses_, u_p0_count_, u_p0_lettersOfA_, u_p0_lettersOfB_])), (a_p0_cells, .inl (cI, 320, .inl p0_cells_))]) (hS : va_S A s.heap H locs) (hl : lv_has ls 6 [(0, .ref a_p0), (1, .int x1_), (2, .int x2_), (3, .long x3_), (5, .int x5_)]) : W p l e ({ frames := 2, cells := 0, slots := 0, locals := 46 } : Room) s m args below meth c H locs 0 0 Q (F0 m 53 ls []) := by
  obtain ⟨hx, hb, hml, hown, hts⟩ := id M
  unfold f_X1_whereAllHold_53 at hf
  obtain ⟨x5_1, ex5_1, hf⟩ := oL_e hf
  refine lv_iinc (v := x5_1) (lv' := [(5, .int x5_1), (0, .ref a_p0), (1, .int x1_), (2, .int x2_), (3, .long x3_)]) hx hb dX1_whereAllHold_53 hl (k := 4) rfl (by rw [← ex5_1]; rfl) (by decide) rfl (fun ls hl => ?_)
  refine lv_goto (tgt := 7) hx hb dX1_whereAllHold_56 (by decide) ?_
  exact hk7 _ _ hf hP hD hS (lv_sub hl [1, 2, 3, 4, 0] rfl)
set_option maxHeartbeats 4000000 in
set_option maxRecDepth 100000 in
theorem w_X1_whereAllHold_32 {p : Program} {l : Launch} {e : Env} {s : State} {m : MethodId} {args : Array Value} {below : List Frame} {meth : Method} {c : Code} {Q : State → Prop} {A : Nat → Prop} {G : va_G} {cI cJ cZ cO : ClassId} {tS : Nat} (a_p0 : Nat) (a_p0_cells : Nat) (u_p0_count_ : Value) (u_p0_lettersOfA_ : Value) (u_p0_lettersOfB_ : Value) (p0_clauses_ : Int32) (p0_cells_ : (Nat → Int32)) (hA : ∀ q : Nat, s.heap.size ≤ q → A q) (hK : va_K G vwCl (xTY cI cJ cZ cO) s) (hZ : xST tS A s) (M : CallFix p m c cX1_whereAllHold 6 s args wsX1_whereAllHold RX1) (res : Int64) (hR : RT_X1_whereAllHold p l e s m args below meth c Q A G cI cJ cZ cO a_p0 a_p0_cells u_p0_count_ u_p0_lettersOfA_ u_p0_lettersOfB_ p0_clauses_ p0_cells_ res) (x1_ : Int32) (x2_ : Int32) (x3_ : Int64) (x5_ : Int32) (k7 : (Int64 × Int32) → Option (Int64)) (hk7 : ∀ (x3_ : Int64) (x5_ : Int32), k7 (x3_, x5_) = some res → ∀ {H : Heap} {locs : List Loc} {ls : Array Slot}, va_P G vwCl [(a_p0, .inr (5, [.ref a_p0_cells, .int p0_clauses_, u_p0_count_, u_p0_lettersOfA_, u_p0_lettersOfB_])), (a_p0_cells, .inl (cI, 320, .inl p0_cells_))] H → va_D A [(a_p0, .inr (5, [.ref a_p0_cells, .int p0_clauses_, u_p0_count_, u_p0_lettersOfA_, u_p0_lettersOfB_])), (a_p0_cells, .inl (cI, 320, .inl p0_cells_))] → va_S A s.heap H locs → lv_has ls 6 [(0, .ref a_p0), (1, .int x1_), (2, .int x2_), (3, .long x3_), (5, .int x5_)] → W p l e ({ frames := 2, cells := 0, slots := 0, locals := 46 } : Room) s m args below meth c H locs 0 0 Q (F0 m 7 ls [])) (hf : f_X1_whereAllHold_32 p0_cells_ x2_ x3_ x5_ k7 = some res) {H : Heap} {locs : List Loc} {ls : Array Slot} (hP : va_P G vwCl [(a_p0, .inr (5, [.ref a_p0_cells, .int p0_clauses_, u_p0_count_, u_p0_lettersOfA_, u_p0_lettersOfB_])), (a_p0_cells, .inl (cI, 320, .inl p0_cells_))] H) (hD : va_D A [(a_p0, .inr (5, [.ref a_p0_cells, .int p0_clauses_, u_p0_count_, u_p0_lettersOfA_, u_p0_lettersOfB_])), (a_p0_cells, .inl (cI, 320, .inl p0_cells_))]) (hS : va_S A s.heap H locs) (hl : lv_has ls 6 [(0, .ref a_p0), (1, .int x1_), (2, .int x2_), (3, .long x3_), (5, .int x5_)]) : W p l e ({ frames := 2, cells := 0, slots := 0, locals := 46 } : Room) s m args below meth c H locs 0 0 Q (F0 m 32 ls []) := by
  obtain ⟨hx, hb, hml, hown, hts⟩ := id M
  unfold f_X1_whereAllHold_32 at hf
  refine lv_lload_n hx hb dX1_whereAllHold_32 rfl (lv_at hl 3 rfl) ?_
  refine lv_aload_n hx hb dX1_whereAllHold_33 rfl (lv_at hl 0 rfl) ?_
  refine lv_iload hx hb dX1_whereAllHold_34 (lv_at hl 4 rfl) ?_
  refine lv_iconst (v := (0 : Int32)) hx hb dX1_whereAllHold_36 (by decide) ?_
  obtain ⟨r1, hq2, hf⟩ := oB1_e hf
  refine xci (wr := []) (ws' := fun _ => [(a_p0, .inr (5, [.ref a_p0_cells, .int p0_clauses_, u_p0_count_, u_p0_lettersOfA_, u_p0_lettersOfB_])), (a_p0_cells, .inl (cI, 320, .inl p0_cells_))]) hA hP hD hS (xrV (As := [.int x5_, .int (0 : Int32)]) (rest := [.long x3_]) M hA hK hZ hP hD hS (c_X5_cell l G cI cJ cZ cO tS H.size a_p0 a_p0_cells (.int p0_clauses_) (u_p0_count_) (u_p0_lettersOfA_) (u_p0_lettersOfB_) p0_cells_ x5_ (0 : Int32) r1 hq2) (cwV 2 hts gX1_whereAllHold_X5_cell rfl rfl rfl hd_X5_cell ⟨Nat.le_of_ble_eq_true rfl, Nat.le_of_ble_eq_true rfl⟩) [0, 1] rfl rfl 0 rfl rfl rfl hl.1 rfl (Nat.le_of_ble_eq_true rfl) dX1_whereAllHold_37 ⟨Nat.le_of_ble_eq_true rfl, Nat.le_of_ble_eq_true rfl⟩) [0, 1] [] [0, 1] rfl rfl rfl rfl (fun _ => rfl) rfl (fun _ H locs hP hD hS => ?_)
  refine lv_aload_n hx hb dX1_whereAllHold_40 rfl (lv_at hl 0 rfl) ?_
  refine lv_iload hx hb dX1_whereAllHold_41 (lv_at hl 4 rfl) ?_
  refine lv_iconst (v := (1 : Int32)) hx hb dX1_whereAllHold_43 (by decide) ?_
  obtain ⟨r3, hq4, hf⟩ := oB1_e hf
  refine xci (wr := []) (ws' := fun _ => [(a_p0, .inr (5, [.ref a_p0_cells, .int p0_clauses_, u_p0_count_, u_p0_lettersOfA_, u_p0_lettersOfB_])), (a_p0_cells, .inl (cI, 320, .inl p0_cells_))]) hA hP hD hS (xrV (As := [.int x5_, .int (1 : Int32)]) (rest := [.int r1, .long x3_]) M hA hK hZ hP hD hS (c_X5_cell l G cI cJ cZ cO tS H.size a_p0 a_p0_cells (.int p0_clauses_) (u_p0_count_) (u_p0_lettersOfA_) (u_p0_lettersOfB_) p0_cells_ x5_ (1 : Int32) r3 hq4) (cwV 2 hts gX1_whereAllHold_X5_cell rfl rfl rfl hd_X5_cell ⟨Nat.le_of_ble_eq_true rfl, Nat.le_of_ble_eq_true rfl⟩) [0, 1] rfl rfl 0 rfl rfl rfl hl.1 rfl (Nat.le_of_ble_eq_true rfl) dX1_whereAllHold_44 ⟨Nat.le_of_ble_eq_true rfl, Nat.le_of_ble_eq_true rfl⟩) [0, 1] [] [0, 1] rfl rfl rfl rfl (fun _ => rfl) rfl (fun _ H locs hP hD hS => ?_)
  refine lv_iload_n hx hb dX1_whereAllHold_47 rfl (lv_at hl 2 rfl) ?_
  obtain ⟨r5, hq6, hf⟩ := oB1_e hf
  refine xcl (wr := [(a_p0, .inr (5, [.ref a_p0_cells, .int p0_clauses_, u_p0_count_, u_p0_lettersOfA_, u_p0_lettersOfB_])), (a_p0_cells, .inl (cI, 320, .inl p0_cells_))]) (ws' := fun _ => [(a_p0, .inr (5, [.ref a_p0_cells, .int p0_clauses_, u_p0_count_, u_p0_lettersOfA_, u_p0_lettersOfB_])), (a_p0_cells, .inl (cI, 320, .inl p0_cells_))]) hA hP hD hS (xrS (As := [.int r1, .int r3, .int x2_]) (rest := [.long x3_]) M hA hK hZ hP hD hS (c_X8_whereClauseHolds l G cI cJ cZ cO tS H.size r1 r3 x2_ r5 hq6) (va_cwS 3 hts gX1_whereAllHold_X8_whereClauseHolds rfl rfl rfl hd_X8_whereClauseHolds ⟨Nat.le_of_ble_eq_true rfl, Nat.le_of_ble_eq_true rfl⟩) [] rfl rfl rfl hl.1 rfl (Nat.le_of_ble_eq_true rfl) dX1_whereAllHold_48 ⟨Nat.le_of_ble_eq_true rfl, Nat.le_of_ble_eq_true rfl⟩) [] [0, 1] [0, 1] rfl rfl rfl rfl (fun _ => rfl) rfl (fun _ H locs hP hD hS => ?_)
  refine lv_land hx hb dX1_whereAllHold_51 ?_
  obtain ⟨x3_7, ex3_7, hf⟩ := oL_e hf
  refine xtopl ex3_7 ?_
  refine lv_lstore_n (lv' := [(3, .long x3_7), (0, .ref a_p0), (1, .int x1_), (2, .int x2_), (5, .int x5_)]) hx hb dX1_whereAllHold_52 rfl hl (by decide) rfl (fun ls hl => ?_)
  exact w_X1_whereAllHold_53 a_p0 a_p0_cells u_p0_count_ u_p0_lettersOfA_ u_p0_lettersOfB_ p0_clauses_ p0_cells_ hA hK hZ M res hR x1_ x2_ x3_7 x5_ k7 hk7 hf hP hD hS (lv_sub hl [1, 2, 3, 0, 4] rfl)
set_option maxHeartbeats 4000000 in
set_option maxRecDepth 100000 in
theorem wb_X1_whereAllHold_7 {p : Program} {l : Launch} {e : Env} {s : State} {m : MethodId} {args : Array Value} {below : List Frame} {meth : Method} {c : Code} {Q : State → Prop} {A : Nat → Prop} {G : va_G} {cI cJ cZ cO : ClassId} {tS : Nat} (a_p0 : Nat) (a_p0_cells : Nat) (u_p0_count_ : Value) (u_p0_lettersOfA_ : Value) (u_p0_lettersOfB_ : Value) (p0_clauses_ : Int32) (p0_cells_ : (Nat → Int32)) (hA : ∀ q : Nat, s.heap.size ≤ q → A q) (hK : va_K G vwCl (xTY cI cJ cZ cO) s) (hZ : xST tS A s) (M : CallFix p m c cX1_whereAllHold 6 s args wsX1_whereAllHold RX1) (res : Int64) (hR : RT_X1_whereAllHold p l e s m args below meth c Q A G cI cJ cZ cO a_p0 a_p0_cells u_p0_count_ u_p0_lettersOfA_ u_p0_lettersOfB_ p0_clauses_ p0_cells_ res) (x1_ : Int32) (x2_ : Int32)  (k7 : (Int64 × Int32) → Option (Int64)) (hk7 : ∀ (x3_ : Int64) (x5_ : Int32), k7 (x3_, x5_) = some res → ∀ {H : Heap} {locs : List Loc} {ls : Array Slot}, va_P G vwCl [(a_p0, .inr (5, [.ref a_p0_cells, .int p0_clauses_, u_p0_count_, u_p0_lettersOfA_, u_p0_lettersOfB_])), (a_p0_cells, .inl (cI, 320, .inl p0_cells_))] H → va_D A [(a_p0, .inr (5, [.ref a_p0_cells, .int p0_clauses_, u_p0_count_, u_p0_lettersOfA_, u_p0_lettersOfB_])), (a_p0_cells, .inl (cI, 320, .inl p0_cells_))] → va_S A s.heap H locs → lv_has ls 6 [(0, .ref a_p0), (1, .int x1_), (2, .int x2_), (3, .long x3_), (5, .int x5_)] → W p l e ({ frames := 2, cells := 0, slots := 0, locals := 46 } : Room) s m args below meth c H locs 0 0 Q (F0 m 7 ls [])) (x3_ : Int64) (x5_ : Int32) (hf : b_X1_whereAllHold_7 p0_clauses_ p0_cells_ x1_ x2_ k7 x3_ x5_ = some res) {H : Heap} {locs : List Loc} {ls : Array Slot} (hP : va_P G vwCl [(a_p0, .inr (5, [.ref a_p0_cells, .int p0_clauses_, u_p0_count_, u_p0_lettersOfA_, u_p0_lettersOfB_])), (a_p0_cells, .inl (cI, 320, .inl p0_cells_))] H) (hD : va_D A [(a_p0, .inr (5, [.ref a_p0_cells, .int p0_clauses_, u_p0_count_, u_p0_lettersOfA_, u_p0_lettersOfB_])), (a_p0_cells, .inl (cI, 320, .inl p0_cells_))]) (hS : va_S A s.heap H locs) (hl : lv_has ls 6 [(0, .ref a_p0), (1, .int x1_), (2, .int x2_), (3, .long x3_), (5, .int x5_)]) : W p l e ({ frames := 2, cells := 0, slots := 0, locals := 46 } : Room) s m args below meth c H locs 0 0 Q (F0 m 7 ls []) := by
  obtain ⟨hx, hb, hml, hown, hts⟩ := id M
  unfold b_X1_whereAllHold_7 at hf
  refine lv_iload hx hb dX1_whereAllHold_7 (lv_at hl 4 rfl) ?_
  refine lv_aload_n hx hb dX1_whereAllHold_9 rfl (lv_at hl 0 rfl) ?_
  refine xget M (C := RX5) (T := TX5) (N := 5) (ci := 5) (v := .int p0_clauses_) uw_X1_whereAllHold_X5 hK hP 0 rfl rfl 1 (by decide) fl_X1_whereAllHold_22 rfl rfl dX1_whereAllHold_10 ?_
  refine lv_icmp_ge (tgt := 59) hx hb dX1_whereAllHold_13 (by decide) (fun hc1 => ?_) (fun hc1 => ?_)
  · have hf := oI_t hc1 hf
    refine lv_lload_n hx hb dX1_whereAllHold_59 rfl (lv_at hl 3 rfl) ?_
    exact hR _ hf _ _ _ _ dX1_whereAllHold_60 hP hD hS
  · have hf := oI_f hc1 hf
    refine lv_iload_n hx hb dX1_whereAllHold_16 rfl (lv_at hl 1 rfl) ?_
    refine lv_iconst (v := (2 : Int32)) hx hb dX1_whereAllHold_17 (by decide) ?_
    refine lv_icmp_eq (tgt := 32) hx hb dX1_whereAllHold_18 (by decide) (fun hc2 => ?_) (fun hc2 => ?_)
    · have hf := oI_t hc2 hf
      exact w_X1_whereAllHold_32 a_p0 a_p0_cells u_p0_count_ u_p0_lettersOfA_ u_p0_lettersOfB_ p0_clauses_ p0_cells_ hA hK hZ M res hR x1_ x2_ x3_ x5_ k7 hk7 hf hP hD hS (lv_sub hl [0, 1, 2, 3, 4] rfl)
    · have hf := oI_f hc2 hf
      refine lv_aload_n hx hb dX1_whereAllHold_21 rfl (lv_at hl 0 rfl) ?_
      refine lv_iload hx hb dX1_whereAllHold_22 (lv_at hl 4 rfl) ?_
      refine lv_iconst (v := (2 : Int32)) hx hb dX1_whereAllHold_24 (by decide) ?_
      obtain ⟨r3, hq4, hf⟩ := oB1_e hf
      refine xci (wr := []) (ws' := fun _ => [(a_p0, .inr (5, [.ref a_p0_cells, .int p0_clauses_, u_p0_count_, u_p0_lettersOfA_, u_p0_lettersOfB_])), (a_p0_cells, .inl (cI, 320, .inl p0_cells_))]) hA hP hD hS (xrV (As := [.int x5_, .int (2 : Int32)]) (rest := []) M hA hK hZ hP hD hS (c_X5_cell l G cI cJ cZ cO tS H.size a_p0 a_p0_cells (.int p0_clauses_) (u_p0_count_) (u_p0_lettersOfA_) (u_p0_lettersOfB_) p0_cells_ x5_ (2 : Int32) r3 hq4) (cwV 2 hts gX1_whereAllHold_X5_cell rfl rfl rfl hd_X5_cell ⟨Nat.le_of_ble_eq_true rfl, Nat.le_of_ble_eq_true rfl⟩) [0, 1] rfl rfl 0 rfl rfl rfl hl.1 rfl (Nat.le_of_ble_eq_true rfl) dX1_whereAllHold_25 ⟨Nat.le_of_ble_eq_true rfl, Nat.le_of_ble_eq_true rfl⟩) [0, 1] [] [0, 1] rfl rfl rfl rfl (fun _ => rfl) rfl (fun _ H locs hP hD hS => ?_)
      refine lv_iload_n hx hb dX1_whereAllHold_28 rfl (lv_at hl 1 rfl) ?_
      refine lv_icmp_ne (tgt := 53) hx hb dX1_whereAllHold_29 (by decide) (fun hc5 => ?_) (fun hc5 => ?_)
      · have hf := oI_f hc5 hf
        exact w_X1_whereAllHold_53 a_p0 a_p0_cells u_p0_count_ u_p0_lettersOfA_ u_p0_lettersOfB_ p0_clauses_ p0_cells_ hA hK hZ M res hR x1_ x2_ x3_ x5_ k7 hk7 hf hP hD hS (lv_sub hl [0, 1, 2, 3, 4] rfl)
      · have hf := oI_t hc5 hf
        exact w_X1_whereAllHold_32 a_p0 a_p0_cells u_p0_count_ u_p0_lettersOfA_ u_p0_lettersOfB_ p0_clauses_ p0_cells_ hA hK hZ M res hR x1_ x2_ x3_ x5_ k7 hk7 hf hP hD hS (lv_sub hl [0, 1, 2, 3, 4] rfl)
set_option maxHeartbeats 4000000 in
set_option maxRecDepth 100000 in
theorem wl_X1_whereAllHold_7 {p : Program} {l : Launch} {e : Env} {s : State} {m : MethodId} {args : Array Value} {below : List Frame} {meth : Method} {c : Code} {Q : State → Prop} {A : Nat → Prop} {G : va_G} {cI cJ cZ cO : ClassId} {tS : Nat} (a_p0 : Nat) (a_p0_cells : Nat) (u_p0_count_ : Value) (u_p0_lettersOfA_ : Value) (u_p0_lettersOfB_ : Value) (p0_clauses_ : Int32) (p0_cells_ : (Nat → Int32)) (hA : ∀ q : Nat, s.heap.size ≤ q → A q) (hK : va_K G vwCl (xTY cI cJ cZ cO) s) (hZ : xST tS A s) (M : CallFix p m c cX1_whereAllHold 6 s args wsX1_whereAllHold RX1) (res : Int64) (hR : RT_X1_whereAllHold p l e s m args below meth c Q A G cI cJ cZ cO a_p0 a_p0_cells u_p0_count_ u_p0_lettersOfA_ u_p0_lettersOfB_ p0_clauses_ p0_cells_ res) (x1_ : Int32) (x2_ : Int32)  (n : Nat) : ∀ (x3_ : Int64) (x5_ : Int32), oF (fun k z => b_X1_whereAllHold_7 p0_clauses_ p0_cells_ x1_ x2_ k z.1 z.2) n (x3_, x5_) = some res → ∀ {H : Heap} {locs : List Loc} {ls : Array Slot}, va_P G vwCl [(a_p0, .inr (5, [.ref a_p0_cells, .int p0_clauses_, u_p0_count_, u_p0_lettersOfA_, u_p0_lettersOfB_])), (a_p0_cells, .inl (cI, 320, .inl p0_cells_))] H → va_D A [(a_p0, .inr (5, [.ref a_p0_cells, .int p0_clauses_, u_p0_count_, u_p0_lettersOfA_, u_p0_lettersOfB_])), (a_p0_cells, .inl (cI, 320, .inl p0_cells_))] → va_S A s.heap H locs → lv_has ls 6 [(0, .ref a_p0), (1, .int x1_), (2, .int x2_), (3, .long x3_), (5, .int x5_)] → W p l e ({ frames := 2, cells := 0, slots := 0, locals := 46 } : Room) s m args below meth c H locs 0 0 Q (F0 m 7 ls []) := by
  induction n with
  | zero => intro x3_ x5_ hf; cases hf
  | succ n ih =>
    intro x3_ x5_ hf H locs ls hP hD hS hl
    exact wb_X1_whereAllHold_7 a_p0 a_p0_cells u_p0_count_ u_p0_lettersOfA_ u_p0_lettersOfB_ p0_clauses_ p0_cells_ hA hK hZ M res hR x1_ x2_  _ ih x3_ x5_ hf hP hD hS hl
set_option maxHeartbeats 4000000 in
set_option maxRecDepth 100000 in
theorem w_X1_whereAllHold_0 {p : Program} {l : Launch} {e : Env} {s : State} {m : MethodId} {args : Array Value} {below : List Frame} {meth : Method} {c : Code} {Q : State → Prop} {A : Nat → Prop} {G : va_G} {cI cJ cZ cO : ClassId} {tS : Nat} (a_p0 : Nat) (a_p0_cells : Nat) (u_p0_count_ : Value) (u_p0_lettersOfA_ : Value) (u_p0_lettersOfB_ : Value) (p0_clauses_ : Int32) (p0_cells_ : (Nat → Int32)) (hA : ∀ q : Nat, s.heap.size ≤ q → A q) (hK : va_K G vwCl (xTY cI cJ cZ cO) s) (hZ : xST tS A s) (M : CallFix p m c cX1_whereAllHold 6 s args wsX1_whereAllHold RX1) (res : Int64) (hR : RT_X1_whereAllHold p l e s m args below meth c Q A G cI cJ cZ cO a_p0 a_p0_cells u_p0_count_ u_p0_lettersOfA_ u_p0_lettersOfB_ p0_clauses_ p0_cells_ res)  (x1_ : Int32) (x2_ : Int32) (hf : f_X1_whereAllHold p0_clauses_ p0_cells_ x1_ x2_ = some res) {H : Heap} {locs : List Loc} {ls : Array Slot} (hP : va_P G vwCl [(a_p0, .inr (5, [.ref a_p0_cells, .int p0_clauses_, u_p0_count_, u_p0_lettersOfA_, u_p0_lettersOfB_])), (a_p0_cells, .inl (cI, 320, .inl p0_cells_))] H) (hD : va_D A [(a_p0, .inr (5, [.ref a_p0_cells, .int p0_clauses_, u_p0_count_, u_p0_lettersOfA_, u_p0_lettersOfB_])), (a_p0_cells, .inl (cI, 320, .inl p0_cells_))]) (hS : va_S A s.heap H locs) (hl : lv_has ls 6 [(0, .ref a_p0), (1, .int x1_), (2, .int x2_)]) : W p l e ({ frames := 2, cells := 0, slots := 0, locals := 46 } : Room) s m args below meth c H locs 0 0 Q (F0 m 0 ls []) := by
  obtain ⟨hx, hb, hml, hown, hts⟩ := id M
  unfold f_X1_whereAllHold at hf
  refine lv_ldc2 (v := (-1)) hx hb hown (hts _ kc_X1_whereAllHold_20) dX1_whereAllHold_0 ?_
  refine lv_lstore_n (lv' := [(3, .long (-1 : Int64)), (0, .ref a_p0), (1, .int x1_), (2, .int x2_)]) hx hb dX1_whereAllHold_3 rfl hl (by decide) rfl (fun ls hl => ?_)
  refine lv_iconst (v := (0 : Int32)) hx hb dX1_whereAllHold_4 (by decide) ?_
  refine lv_istore (lv' := [(5, .int (0 : Int32)), (3, .long (-1 : Int64)), (0, .ref a_p0), (1, .int x1_), (2, .int x2_)]) hx hb dX1_whereAllHold_5 hl (by decide) rfl (fun ls hl => ?_)
  exact wl_X1_whereAllHold_7 a_p0 a_p0_cells u_p0_count_ u_p0_lettersOfA_ u_p0_lettersOfB_ p0_clauses_ p0_cells_ hA hK hZ M res hR x1_ x2_  xN (-1 : Int64) (0 : Int32) hf hP hD hS (lv_sub hl [2, 3, 4, 1, 0] rfl)
set_option maxHeartbeats 4000000 in
set_option maxRecDepth 100000 in
theorem c_X1_whereAllHold (l : Launch) (G : va_G) (cI cJ cZ cO : ClassId) (tS sz : Nat) (a_p0 : Nat) (a_p0_cells : Nat) (u_p0_count_ : Value) (u_p0_lettersOfA_ : Value) (u_p0_lettersOfB_ : Value) (p0_clauses_ : Int32) (p0_cells_ : (Nat → Int32)) (x1_ : Int32) (x2_ : Int32) (v_ : Int64) (hf : f_X1_whereAllHold p0_clauses_ p0_cells_ x1_ x2_ = some v_) : Met l yX1_whereAllHold wsX1_whereAllHold ({ frames := 2, cells := 0, slots := 0, locals := 46 } : Room) (xPre G (xTY cI cJ cZ cO) tS [(a_p0, .inr (5, [.ref a_p0_cells, .int p0_clauses_, u_p0_count_, u_p0_lettersOfA_, u_p0_lettersOfB_])), (a_p0_cells, .inl (cI, 320, .inl p0_cells_))] sz [.ref a_p0, .int x1_, .int x2_]) (xQl G [(a_p0, .inr (5, [.ref a_p0_cells, .int p0_clauses_, u_p0_count_, u_p0_lettersOfA_, u_p0_lettersOfB_])), (a_p0_cells, .inl (cI, 320, .inl p0_cells_))] sz (fun _ : Unit => [(a_p0, .inr (5, [.ref a_p0_cells, .int p0_clauses_, u_p0_count_, u_p0_lettersOfA_, u_p0_lettersOfB_])), (a_p0_cells, .inl (cI, 320, .inl p0_cells_))]) v_) 0 0 (va_A [(a_p0, .inr (5, [.ref a_p0_cells, .int p0_clauses_, u_p0_count_, u_p0_lettersOfA_, u_p0_lettersOfB_])), (a_p0_cells, .inl (cI, 320, .inl p0_cells_))] sz) := by
  refine xMet (cc := cX1_whereAllHold) (maxL := 6) (ret := (some .long)) (own := RX1) (by decide +kernel) rfl rfl (Nat.le_of_ble_eq_true rfl) rfl ?_
  intro p e s m below meth c ls M hr hlk hin hsz hA hK hZ hP hD hl
  refine w_X1_whereAllHold_0 a_p0 a_p0_cells u_p0_count_ u_p0_lettersOfA_ u_p0_lettersOfB_ p0_clauses_ p0_cells_ hA hK hZ M v_ (fun v_' hres H locs ls pc hd hP hD hS => ?_)  x1_ x2_ hf hP hD va_S.rf hl
  cases hres
  exact xretl (W1 := fun _ : Unit => [(a_p0, .inr (5, [.ref a_p0_cells, .int p0_clauses_, u_p0_count_, u_p0_lettersOfA_, u_p0_lettersOfB_])), (a_p0_cells, .inl (cI, 320, .inl p0_cells_))]) M hr hlk () hP hD hS hd
/-! java/lang/Long.bitCount(J)I -/
theorem kc_J13_bitCount_95d88_314 : Cond.constantLong RJ13 314 (6148914691236517205) ∈ wsJ13_bitCount_95d88 := by decide +kernel
theorem kc_J13_bitCount_95d88_316 : Cond.constantLong RJ13 316 (3689348814741910323) ∈ wsJ13_bitCount_95d88 := by decide +kernel
theorem kc_J13_bitCount_95d88_318 : Cond.constantLong RJ13 318 (1085102592571150095) ∈ wsJ13_bitCount_95d88 := by decide +kernel
theorem hd_J13_bitCount_95d88 : yJ13_bitCount_95d88.cls ≠ "java/lang/invoke/MethodHandle" ∧ yJ13_bitCount_95d88.cls ≠ "java/lang/invoke/VarHandle" ∧ (parseMethodDescriptor yJ13_bitCount_95d88.desc).map (fun d => d.parameters.length) = some 1 := by decide +kernel
def RT_J13_bitCount_95d88 (p : Program) (l : Launch) (e : Env) (s : State) (m : MethodId) (args : Array Value) (below : List Frame) (meth : Method) (c : Code) (Q : State → Prop) (A : Nat → Prop) (G : va_G) (cI cJ cZ cO : ClassId)  (res : Int32) : Prop := ∀ (v_ : Int32), some v_ = some res → ∀ (H : Heap) (locs : List Loc) (ls : Array Slot) (pc : Nat), decode cJ13_bitCount_95d88 pc = .ok (.ireturn, 1) → va_P G vwCl [] H → va_D A [] → va_S A s.heap H locs → W p l e ({ frames := 0, cells := 0, slots := 0, locals := 0 } : Room) s m args below meth c H locs 0 0 Q (F0 m pc ls [.int v_])
set_option maxHeartbeats 4000000 in
set_option maxRecDepth 100000 in
theorem w_J13_bitCount_95d88_0 {p : Program} {l : Launch} {e : Env} {s : State} {m : MethodId} {args : Array Value} {below : List Frame} {meth : Method} {c : Code} {Q : State → Prop} {A : Nat → Prop} {G : va_G} {cI cJ cZ cO : ClassId} {tS : Nat}  (hA : ∀ q : Nat, s.heap.size ≤ q → A q) (hK : va_K G vwCl (xTY cI cJ cZ cO) s) (hZ : xST tS A s) (M : CallFix p m c cJ13_bitCount_95d88 2 s args wsJ13_bitCount_95d88 RJ13) (res : Int32) (hR : RT_J13_bitCount_95d88 p l e s m args below meth c Q A G cI cJ cZ cO  res)  (x0_ : Int64) (hf : f_J13_bitCount_95d88 x0_ = some res) {H : Heap} {locs : List Loc} {ls : Array Slot} (hP : va_P G vwCl [] H) (hD : va_D A []) (hS : va_S A s.heap H locs) (hl : lv_has ls 2 [(0, .long x0_)]) : W p l e ({ frames := 0, cells := 0, slots := 0, locals := 0 } : Room) s m args below meth c H locs 0 0 Q (F0 m 0 ls []) := by
  obtain ⟨hx, hb, hml, hown, hts⟩ := id M
  unfold f_J13_bitCount_95d88 at hf
  refine lv_lload_n hx hb dJ13_bitCount_95d88_0 rfl (lv_at hl 0 rfl) ?_
  refine lv_lload_n hx hb dJ13_bitCount_95d88_1 rfl (lv_at hl 0 rfl) ?_
  refine lv_iconst (v := (1 : Int32)) hx hb dJ13_bitCount_95d88_2 (by decide) ?_
  refine lv_lushr (v := ((x0_.toUInt64 >>> ((1 : Int32).toInt64.toUInt64 &&& Int64.toUInt64 63)).toInt64)) hx hb dJ13_bitCount_95d88_3 rfl ?_
  refine lv_ldc2 (v := (6148914691236517205)) hx hb hown (hts _ kc_J13_bitCount_95d88_314) dJ13_bitCount_95d88_4 ?_
  refine lv_land hx hb dJ13_bitCount_95d88_7 ?_
  refine lv_lsub hx hb dJ13_bitCount_95d88_8 ?_
  obtain ⟨x0_1, ex0_1, hf⟩ := oL_e hf
  refine xtopl ex0_1 ?_
  refine lv_lstore_n (lv' := [(0, .long x0_1)]) hx hb dJ13_bitCount_95d88_9 rfl hl (by decide) rfl (fun ls hl => ?_)
  refine lv_lload_n hx hb dJ13_bitCount_95d88_10 rfl (lv_at hl 0 rfl) ?_
  refine lv_ldc2 (v := (3689348814741910323)) hx hb hown (hts _ kc_J13_bitCount_95d88_316) dJ13_bitCount_95d88_11 ?_
  refine lv_land hx hb dJ13_bitCount_95d88_14 ?_
  refine lv_lload_n hx hb dJ13_bitCount_95d88_15 rfl (lv_at hl 0 rfl) ?_
  refine lv_iconst (v := (2 : Int32)) hx hb dJ13_bitCount_95d88_16 (by decide) ?_
  refine lv_lushr (v := ((x0_1.toUInt64 >>> ((2 : Int32).toInt64.toUInt64 &&& Int64.toUInt64 63)).toInt64)) hx hb dJ13_bitCount_95d88_17 rfl ?_
  refine lv_ldc2 (v := (3689348814741910323)) hx hb hown (hts _ kc_J13_bitCount_95d88_316) dJ13_bitCount_95d88_18 ?_
  refine lv_land hx hb dJ13_bitCount_95d88_21 ?_
  refine lv_ladd hx hb dJ13_bitCount_95d88_22 ?_
  obtain ⟨x0_2, ex0_2, hf⟩ := oL_e hf
  refine xtopl ex0_2 ?_
  refine lv_lstore_n (lv' := [(0, .long x0_2)]) hx hb dJ13_bitCount_95d88_23 rfl hl (by decide) rfl (fun ls hl => ?_)
  refine lv_lload_n hx hb dJ13_bitCount_95d88_24 rfl (lv_at hl 0 rfl) ?_
  refine lv_lload_n hx hb dJ13_bitCount_95d88_25 rfl (lv_at hl 0 rfl) ?_
  refine lv_iconst (v := (4 : Int32)) hx hb dJ13_bitCount_95d88_26 (by decide) ?_
  refine lv_lushr (v := ((x0_2.toUInt64 >>> ((4 : Int32).toInt64.toUInt64 &&& Int64.toUInt64 63)).toInt64)) hx hb dJ13_bitCount_95d88_27 rfl ?_
  refine lv_ladd hx hb dJ13_bitCount_95d88_28 ?_
  refine lv_ldc2 (v := (1085102592571150095)) hx hb hown (hts _ kc_J13_bitCount_95d88_318) dJ13_bitCount_95d88_29 ?_
  refine lv_land hx hb dJ13_bitCount_95d88_32 ?_
  obtain ⟨x0_3, ex0_3, hf⟩ := oL_e hf
  refine xtopl ex0_3 ?_
  refine lv_lstore_n (lv' := [(0, .long x0_3)]) hx hb dJ13_bitCount_95d88_33 rfl hl (by decide) rfl (fun ls hl => ?_)
  refine lv_lload_n hx hb dJ13_bitCount_95d88_34 rfl (lv_at hl 0 rfl) ?_
  refine lv_lload_n hx hb dJ13_bitCount_95d88_35 rfl (lv_at hl 0 rfl) ?_
  refine lv_bipush (v := (8 : Int32)) hx hb dJ13_bitCount_95d88_36 (by decide) ?_
  refine lv_lushr (v := ((x0_3.toUInt64 >>> ((8 : Int32).toInt64.toUInt64 &&& Int64.toUInt64 63)).toInt64)) hx hb dJ13_bitCount_95d88_38 rfl ?_
  refine lv_ladd hx hb dJ13_bitCount_95d88_39 ?_
  obtain ⟨x0_4, ex0_4, hf⟩ := oL_e hf
  refine xtopl ex0_4 ?_
  refine lv_lstore_n (lv' := [(0, .long x0_4)]) hx hb dJ13_bitCount_95d88_40 rfl hl (by decide) rfl (fun ls hl => ?_)
  refine lv_lload_n hx hb dJ13_bitCount_95d88_41 rfl (lv_at hl 0 rfl) ?_
  refine lv_lload_n hx hb dJ13_bitCount_95d88_42 rfl (lv_at hl 0 rfl) ?_
  refine lv_bipush (v := (16 : Int32)) hx hb dJ13_bitCount_95d88_43 (by decide) ?_
  refine lv_lushr (v := ((x0_4.toUInt64 >>> ((16 : Int32).toInt64.toUInt64 &&& Int64.toUInt64 63)).toInt64)) hx hb dJ13_bitCount_95d88_45 rfl ?_
  refine lv_ladd hx hb dJ13_bitCount_95d88_46 ?_
  obtain ⟨x0_5, ex0_5, hf⟩ := oL_e hf
  refine xtopl ex0_5 ?_
  refine lv_lstore_n (lv' := [(0, .long x0_5)]) hx hb dJ13_bitCount_95d88_47 rfl hl (by decide) rfl (fun ls hl => ?_)
  refine lv_lload_n hx hb dJ13_bitCount_95d88_48 rfl (lv_at hl 0 rfl) ?_
  refine lv_lload_n hx hb dJ13_bitCount_95d88_49 rfl (lv_at hl 0 rfl) ?_
  refine lv_bipush (v := (32 : Int32)) hx hb dJ13_bitCount_95d88_50 (by decide) ?_
  refine lv_lushr (v := ((x0_5.toUInt64 >>> ((32 : Int32).toInt64.toUInt64 &&& Int64.toUInt64 63)).toInt64)) hx hb dJ13_bitCount_95d88_52 rfl ?_
  refine lv_ladd hx hb dJ13_bitCount_95d88_53 ?_
  obtain ⟨x0_6, ex0_6, hf⟩ := oL_e hf
  refine xtopl ex0_6 ?_
  refine lv_lstore_n (lv' := [(0, .long x0_6)]) hx hb dJ13_bitCount_95d88_54 rfl hl (by decide) rfl (fun ls hl => ?_)
  refine lv_lload_n hx hb dJ13_bitCount_95d88_55 rfl (lv_at hl 0 rfl) ?_
  refine lv_l2i (v := x0_6.toInt32) hx hb dJ13_bitCount_95d88_56 rfl ?_
  refine lv_bipush (v := (127 : Int32)) hx hb dJ13_bitCount_95d88_57 (by decide) ?_
  refine lv_iand hx hb dJ13_bitCount_95d88_59 ?_
  exact hR _ hf _ _ _ _ dJ13_bitCount_95d88_60 hP hD hS
set_option maxHeartbeats 4000000 in
set_option maxRecDepth 100000 in
theorem c_J13_bitCount_95d88 (l : Launch) (G : va_G) (cI cJ cZ cO : ClassId) (tS sz : Nat)   (x0_ : Int64) (v_ : Int32) (hf : f_J13_bitCount_95d88 x0_ = some v_) : Met l yJ13_bitCount_95d88 wsJ13_bitCount_95d88 ({ frames := 0, cells := 0, slots := 0, locals := 0 } : Room) (xPre G (xTY cI cJ cZ cO) tS [] sz [.long x0_]) (xQi G [] sz (fun _ : Unit => []) v_) 0 0 (va_A [] sz) := by
  refine xMet (cc := cJ13_bitCount_95d88) (maxL := 2) (ret := (some .int)) (own := RJ13) (by decide +kernel) rfl rfl (Nat.le_of_ble_eq_true rfl) rfl ?_
  intro p e s m below meth c ls M hr hlk hin hsz hA hK hZ hP hD hl
  refine w_J13_bitCount_95d88_0  hA hK hZ M v_ (fun v_' hres H locs ls pc hd hP hD hS => ?_)  x0_ hf hP hD va_S.rf hl
  cases hres
  exact xreti (W1 := fun _ : Unit => []) M hr hlk () hP hD hS hd
/-! BetweenBoth$Look.worldsOf(LBetweenBoth$Steps;I)I -/
theorem hd_X1_worldsOf : yX1_worldsOf.cls = RX1 ∧ yX1_worldsOf.cls ≠ "java/lang/invoke/MethodHandle" ∧ yX1_worldsOf.cls ≠ "java/lang/invoke/VarHandle" ∧ (parseMethodDescriptor yX1_worldsOf.desc).map (fun d => d.parameters.length) = some 2 := by decide +kernel
def RT_X1_worldsOf (p : Program) (l : Launch) (e : Env) (s : State) (m : MethodId) (args : Array Value) (below : List Frame) (meth : Method) (c : Code) (Q : State → Prop) (A : Nat → Prop) (G : va_G) (cI cJ cZ cO : ClassId) (a_p1 : Nat) (a_p1_cells : Nat) (a_this : Nat) (u_p1_count_ : Value) (u_p1_lettersOfA_ : Value) (u_p1_lettersOfB_ : Value) (p1_clauses_ : Int32) (p1_cells_ : (Nat → Int32)) (res : Int32) : Prop := ∀ (v_ : Int32), some v_ = some res → ∀ (H : Heap) (locs : List Loc) (ls : Array Slot) (pc : Nat), decode cX1_worldsOf pc = .ok (.ireturn, 1) → va_P G vwCl [(a_p1, .inr (5, [.ref a_p1_cells, .int p1_clauses_, u_p1_count_, u_p1_lettersOfA_, u_p1_lettersOfB_])), (a_p1_cells, .inl (cI, 320, .inl p1_cells_))] H → va_D A [(a_p1, .inr (5, [.ref a_p1_cells, .int p1_clauses_, u_p1_count_, u_p1_lettersOfA_, u_p1_lettersOfB_])), (a_p1_cells, .inl (cI, 320, .inl p1_cells_))] → va_S A s.heap H locs → W p l e ({ frames := 3, cells := 0, slots := 0, locals := 71 } : Room) s m args below meth c H locs 0 0 Q (F0 m pc ls [.int v_])
set_option maxHeartbeats 4000000 in
set_option maxRecDepth 100000 in
theorem wb_X1_worldsOf_5 {p : Program} {l : Launch} {e : Env} {s : State} {m : MethodId} {args : Array Value} {below : List Frame} {meth : Method} {c : Code} {Q : State → Prop} {A : Nat → Prop} {G : va_G} {cI cJ cZ cO : ClassId} {tS : Nat} (a_p1 : Nat) (a_p1_cells : Nat) (a_this : Nat) (u_p1_count_ : Value) (u_p1_lettersOfA_ : Value) (u_p1_lettersOfB_ : Value) (p1_clauses_ : Int32) (p1_cells_ : (Nat → Int32)) (hA : ∀ q : Nat, s.heap.size ≤ q → A q) (hK : va_K G vwCl (xTY cI cJ cZ cO) s) (hZ : xST tS A s) (M : CallFix p m c cX1_worldsOf 5 s args wsX1_worldsOf RX1) (res : Int32) (hR : RT_X1_worldsOf p l e s m args below meth c Q A G cI cJ cZ cO a_p1 a_p1_cells a_this u_p1_count_ u_p1_lettersOfA_ u_p1_lettersOfB_ p1_clauses_ p1_cells_ res) (x2_ : Int32)  (k5 : (Int32 × Int32) → Option (Int32)) (hk5 : ∀ (x3_ : Int32) (x4_ : Int32), k5 (x3_, x4_) = some res → ∀ {H : Heap} {locs : List Loc} {ls : Array Slot}, va_P G vwCl [(a_p1, .inr (5, [.ref a_p1_cells, .int p1_clauses_, u_p1_count_, u_p1_lettersOfA_, u_p1_lettersOfB_])), (a_p1_cells, .inl (cI, 320, .inl p1_cells_))] H → va_D A [(a_p1, .inr (5, [.ref a_p1_cells, .int p1_clauses_, u_p1_count_, u_p1_lettersOfA_, u_p1_lettersOfB_])), (a_p1_cells, .inl (cI, 320, .inl p1_cells_))] → va_S A s.heap H locs → lv_has ls 5 [(1, .ref a_p1), (2, .int x2_), (3, .int x3_), (4, .int x4_)] → W p l e ({ frames := 3, cells := 0, slots := 0, locals := 71 } : Room) s m args below meth c H locs 0 0 Q (F0 m 5 ls [])) (x3_ : Int32) (x4_ : Int32) (hf : b_X1_worldsOf_5 p1_clauses_ p1_cells_ x2_ k5 x3_ x4_ = some res) {H : Heap} {locs : List Loc} {ls : Array Slot} (hP : va_P G vwCl [(a_p1, .inr (5, [.ref a_p1_cells, .int p1_clauses_, u_p1_count_, u_p1_lettersOfA_, u_p1_lettersOfB_])), (a_p1_cells, .inl (cI, 320, .inl p1_cells_))] H) (hD : va_D A [(a_p1, .inr (5, [.ref a_p1_cells, .int p1_clauses_, u_p1_count_, u_p1_lettersOfA_, u_p1_lettersOfB_])), (a_p1_cells, .inl (cI, 320, .inl p1_cells_))]) (hS : va_S A s.heap H locs) (hl : lv_has ls 5 [(1, .ref a_p1), (2, .int x2_), (3, .int x3_), (4, .int x4_)]) : W p l e ({ frames := 3, cells := 0, slots := 0, locals := 71 } : Room) s m args below meth c H locs 0 0 Q (F0 m 5 ls []) := by
  obtain ⟨hx, hb, hml, hown, hts⟩ := id M
  unfold b_X1_worldsOf_5 at hf
  refine lv_iload hx hb dX1_worldsOf_5 (lv_at hl 3 rfl) ?_
  refine lv_iconst (v := (4 : Int32)) hx hb dX1_worldsOf_7 (by decide) ?_
  refine lv_icmp_ge (tgt := 30) hx hb dX1_worldsOf_8 (by decide) (fun hc1 => ?_) (fun hc1 => ?_)
  · have hf := oI_t hc1 hf
    refine lv_iload_n hx hb dX1_worldsOf_30 rfl (lv_at hl 2 rfl) ?_
    exact hR _ hf _ _ _ _ dX1_worldsOf_31 hP hD hS
  · have hf := oI_f hc1 hf
    refine lv_iload_n hx hb dX1_worldsOf_11 rfl (lv_at hl 2 rfl) ?_
    refine lv_aload_n hx hb dX1_worldsOf_12 rfl (lv_at hl 0 rfl) ?_
    refine lv_iload_n hx hb dX1_worldsOf_13 rfl (lv_at hl 1 rfl) ?_
    refine lv_iload hx hb dX1_worldsOf_14 (lv_at hl 3 rfl) ?_
    obtain ⟨r2, hq3, hf⟩ := oB1_e hf
    refine xcl (wr := []) (ws' := fun _ => [(a_p1, .inr (5, [.ref a_p1_cells, .int p1_clauses_, u_p1_count_, u_p1_lettersOfA_, u_p1_lettersOfB_])), (a_p1_cells, .inl (cI, 320, .inl p1_cells_))]) hA hP hD hS (xrS (As := [.ref a_p1, .int x2_, .int x4_]) (rest := [.int x3_]) M hA hK hZ hP hD hS (c_X1_whereAllHold l G cI cJ cZ cO tS H.size a_p1 a_p1_cells (u_p1_count_) (u_p1_lettersOfA_) (u_p1_lettersOfB_) p1_clauses_ p1_cells_ x2_ x4_ r2 hq3) (va_cwS 3 hts gX1_worldsOf_X1_whereAllHold rfl rfl rfl hd_X1_whereAllHold ⟨Nat.le_of_ble_eq_true rfl, Nat.le_of_ble_eq_true rfl⟩) [0, 1] rfl rfl rfl hl.1 rfl (Nat.le_of_ble_eq_true rfl) dX1_worldsOf_16 ⟨Nat.le_of_ble_eq_true rfl, Nat.le_of_ble_eq_true rfl⟩) [0, 1] [] [0, 1] rfl rfl rfl rfl (fun _ => rfl) rfl (fun _ H locs hP hD hS => ?_)
    obtain ⟨r4, hq5, hf⟩ := oB1_e hf
    refine xci (wr := [(a_p1, .inr (5, [.ref a_p1_cells, .int p1_clauses_, u_p1_count_, u_p1_lettersOfA_, u_p1_lettersOfB_])), (a_p1_cells, .inl (cI, 320, .inl p1_cells_))]) (ws' := fun _ => [(a_p1, .inr (5, [.ref a_p1_cells, .int p1_clauses_, u_p1_count_, u_p1_lettersOfA_, u_p1_lettersOfB_])), (a_p1_cells, .inl (cI, 320, .inl p1_cells_))]) hA hP hD hS (xrS (As := [.long r2]) (rest := [.int x3_]) M hA hK hZ hP hD hS (c_J13_bitCount_95d88 l G cI cJ cZ cO tS H.size r2 r4 hq5) (va_cwS 1 hts gX1_worldsOf_J13_bitCount_95d88 rfl rfl rfl hd_J13_bitCount_95d88 ⟨Nat.le_of_ble_eq_true rfl, Nat.le_of_ble_eq_true rfl⟩) [] rfl rfl rfl hl.1 rfl (Nat.le_of_ble_eq_true rfl) dX1_worldsOf_19 ⟨Nat.le_of_ble_eq_true rfl, Nat.le_of_ble_eq_true rfl⟩) [] [0, 1] [0, 1] rfl rfl rfl rfl (fun _ => rfl) rfl (fun _ H locs hP hD hS => ?_)
    refine lv_iadd hx hb dX1_worldsOf_22 ?_
    obtain ⟨x3_6, ex3_6, hf⟩ := oL_e hf
    refine xtopi ex3_6 ?_
    refine lv_istore_n (lv' := [(3, .int x3_6), (1, .ref a_p1), (2, .int x2_), (4, .int x4_)]) hx hb dX1_worldsOf_23 rfl hl (by decide) rfl (fun ls hl => ?_)
    obtain ⟨x4_7, ex4_7, hf⟩ := oL_e hf
    refine lv_iinc (v := x4_7) (lv' := [(4, .int x4_7), (3, .int x3_6), (1, .ref a_p1), (2, .int x2_)]) hx hb dX1_worldsOf_24 hl (k := 3) rfl (by rw [← ex4_7]; rfl) (by decide) rfl (fun ls hl => ?_)
    refine lv_goto (tgt := 5) hx hb dX1_worldsOf_27 (by decide) ?_
    exact hk5 _ _ hf hP hD hS (lv_sub hl [2, 3, 1, 0] rfl)
set_option maxHeartbeats 4000000 in
set_option maxRecDepth 100000 in
theorem wl_X1_worldsOf_5 {p : Program} {l : Launch} {e : Env} {s : State} {m : MethodId} {args : Array Value} {below : List Frame} {meth : Method} {c : Code} {Q : State → Prop} {A : Nat → Prop} {G : va_G} {cI cJ cZ cO : ClassId} {tS : Nat} (a_p1 : Nat) (a_p1_cells : Nat) (a_this : Nat) (u_p1_count_ : Value) (u_p1_lettersOfA_ : Value) (u_p1_lettersOfB_ : Value) (p1_clauses_ : Int32) (p1_cells_ : (Nat → Int32)) (hA : ∀ q : Nat, s.heap.size ≤ q → A q) (hK : va_K G vwCl (xTY cI cJ cZ cO) s) (hZ : xST tS A s) (M : CallFix p m c cX1_worldsOf 5 s args wsX1_worldsOf RX1) (res : Int32) (hR : RT_X1_worldsOf p l e s m args below meth c Q A G cI cJ cZ cO a_p1 a_p1_cells a_this u_p1_count_ u_p1_lettersOfA_ u_p1_lettersOfB_ p1_clauses_ p1_cells_ res) (x2_ : Int32)  (n : Nat) : ∀ (x3_ : Int32) (x4_ : Int32), oF (fun k z => b_X1_worldsOf_5 p1_clauses_ p1_cells_ x2_ k z.1 z.2) n (x3_, x4_) = some res → ∀ {H : Heap} {locs : List Loc} {ls : Array Slot}, va_P G vwCl [(a_p1, .inr (5, [.ref a_p1_cells, .int p1_clauses_, u_p1_count_, u_p1_lettersOfA_, u_p1_lettersOfB_])), (a_p1_cells, .inl (cI, 320, .inl p1_cells_))] H → va_D A [(a_p1, .inr (5, [.ref a_p1_cells, .int p1_clauses_, u_p1_count_, u_p1_lettersOfA_, u_p1_lettersOfB_])), (a_p1_cells, .inl (cI, 320, .inl p1_cells_))] → va_S A s.heap H locs → lv_has ls 5 [(1, .ref a_p1), (2, .int x2_), (3, .int x3_), (4, .int x4_)] → W p l e ({ frames := 3, cells := 0, slots := 0, locals := 71 } : Room) s m args below meth c H locs 0 0 Q (F0 m 5 ls []) := by
  induction n with
  | zero => intro x3_ x4_ hf; cases hf
  | succ n ih =>
    intro x3_ x4_ hf H locs ls hP hD hS hl
    exact wb_X1_worldsOf_5 a_p1 a_p1_cells a_this u_p1_count_ u_p1_lettersOfA_ u_p1_lettersOfB_ p1_clauses_ p1_cells_ hA hK hZ M res hR x2_  _ ih x3_ x4_ hf hP hD hS hl
set_option maxHeartbeats 4000000 in
set_option maxRecDepth 100000 in
theorem w_X1_worldsOf_0 {p : Program} {l : Launch} {e : Env} {s : State} {m : MethodId} {args : Array Value} {below : List Frame} {meth : Method} {c : Code} {Q : State → Prop} {A : Nat → Prop} {G : va_G} {cI cJ cZ cO : ClassId} {tS : Nat} (a_p1 : Nat) (a_p1_cells : Nat) (a_this : Nat) (u_p1_count_ : Value) (u_p1_lettersOfA_ : Value) (u_p1_lettersOfB_ : Value) (p1_clauses_ : Int32) (p1_cells_ : (Nat → Int32)) (hA : ∀ q : Nat, s.heap.size ≤ q → A q) (hK : va_K G vwCl (xTY cI cJ cZ cO) s) (hZ : xST tS A s) (M : CallFix p m c cX1_worldsOf 5 s args wsX1_worldsOf RX1) (res : Int32) (hR : RT_X1_worldsOf p l e s m args below meth c Q A G cI cJ cZ cO a_p1 a_p1_cells a_this u_p1_count_ u_p1_lettersOfA_ u_p1_lettersOfB_ p1_clauses_ p1_cells_ res)  (x2_ : Int32) (hf : f_X1_worldsOf p1_clauses_ p1_cells_ x2_ = some res) {H : Heap} {locs : List Loc} {ls : Array Slot} (hP : va_P G vwCl [(a_p1, .inr (5, [.ref a_p1_cells, .int p1_clauses_, u_p1_count_, u_p1_lettersOfA_, u_p1_lettersOfB_])), (a_p1_cells, .inl (cI, 320, .inl p1_cells_))] H) (hD : va_D A [(a_p1, .inr (5, [.ref a_p1_cells, .int p1_clauses_, u_p1_count_, u_p1_lettersOfA_, u_p1_lettersOfB_])), (a_p1_cells, .inl (cI, 320, .inl p1_cells_))]) (hS : va_S A s.heap H locs) (hl : lv_has ls 5 [(0, .ref a_this), (1, .ref a_p1), (2, .int x2_)]) : W p l e ({ frames := 3, cells := 0, slots := 0, locals := 71 } : Room) s m args below meth c H locs 0 0 Q (F0 m 0 ls []) := by
  obtain ⟨hx, hb, hml, hown, hts⟩ := id M
  unfold f_X1_worldsOf at hf
  refine lv_iconst (v := (0 : Int32)) hx hb dX1_worldsOf_0 (by decide) ?_
  refine lv_istore_n (lv' := [(3, .int (0 : Int32)), (0, .ref a_this), (1, .ref a_p1), (2, .int x2_)]) hx hb dX1_worldsOf_1 rfl hl (by decide) rfl (fun ls hl => ?_)
  refine lv_iconst (v := (0 : Int32)) hx hb dX1_worldsOf_2 (by decide) ?_
  refine lv_istore (lv' := [(4, .int (0 : Int32)), (3, .int (0 : Int32)), (0, .ref a_this), (1, .ref a_p1), (2, .int x2_)]) hx hb dX1_worldsOf_3 hl (by decide) rfl (fun ls hl => ?_)
  exact wl_X1_worldsOf_5 a_p1 a_p1_cells a_this u_p1_count_ u_p1_lettersOfA_ u_p1_lettersOfB_ p1_clauses_ p1_cells_ hA hK hZ M res hR x2_  xN (0 : Int32) (0 : Int32) hf hP hD hS (lv_sub hl [3, 4, 1, 0] rfl)
set_option maxHeartbeats 4000000 in
set_option maxRecDepth 100000 in
theorem c_X1_worldsOf (l : Launch) (G : va_G) (cI cJ cZ cO : ClassId) (tS sz : Nat) (a_p1 : Nat) (a_p1_cells : Nat) (a_this : Nat) (u_p1_count_ : Value) (u_p1_lettersOfA_ : Value) (u_p1_lettersOfB_ : Value) (p1_clauses_ : Int32) (p1_cells_ : (Nat → Int32)) (x2_ : Int32) (v_ : Int32) (hf : f_X1_worldsOf p1_clauses_ p1_cells_ x2_ = some v_) : Met l yX1_worldsOf wsX1_worldsOf ({ frames := 3, cells := 0, slots := 0, locals := 71 } : Room) (xPre G (xTY cI cJ cZ cO) tS [(a_p1, .inr (5, [.ref a_p1_cells, .int p1_clauses_, u_p1_count_, u_p1_lettersOfA_, u_p1_lettersOfB_])), (a_p1_cells, .inl (cI, 320, .inl p1_cells_))] sz [.ref a_this, .ref a_p1, .int x2_]) (xQi G [(a_p1, .inr (5, [.ref a_p1_cells, .int p1_clauses_, u_p1_count_, u_p1_lettersOfA_, u_p1_lettersOfB_])), (a_p1_cells, .inl (cI, 320, .inl p1_cells_))] sz (fun _ : Unit => [(a_p1, .inr (5, [.ref a_p1_cells, .int p1_clauses_, u_p1_count_, u_p1_lettersOfA_, u_p1_lettersOfB_])), (a_p1_cells, .inl (cI, 320, .inl p1_cells_))]) v_) 0 0 (va_A [(a_p1, .inr (5, [.ref a_p1_cells, .int p1_clauses_, u_p1_count_, u_p1_lettersOfA_, u_p1_lettersOfB_])), (a_p1_cells, .inl (cI, 320, .inl p1_cells_))] sz) := by
  refine xMet (cc := cX1_worldsOf) (maxL := 5) (ret := (some .int)) (own := RX1) (by decide +kernel) rfl rfl (Nat.le_of_ble_eq_true rfl) rfl ?_
  intro p e s m below meth c ls M hr hlk hin hsz hA hK hZ hP hD hl
  refine w_X1_worldsOf_0 a_p1 a_p1_cells a_this u_p1_count_ u_p1_lettersOfA_ u_p1_lettersOfB_ p1_clauses_ p1_cells_ hA hK hZ M v_ (fun v_' hres H locs ls pc hd hP hD hS => ?_)  x2_ hf hP hD va_S.rf hl
  cases hres
  exact xreti (W1 := fun _ : Unit => [(a_p1, .inr (5, [.ref a_p1_cells, .int p1_clauses_, u_p1_count_, u_p1_lettersOfA_, u_p1_lettersOfB_])), (a_p1_cells, .inl (cI, 320, .inl p1_cells_))]) M hr hlk () hP hD hS hd
/-! BetweenBoth$Sentence.word(I)J -/
theorem uw_X4_word_X4 : ∀ w ∈ u_ws RX4 TX4 2, w ∈ wsX4_word := by decide +kernel
theorem fl_X4_word_11 : Cond.fieldLink RX4 11 "BetweenBoth$Sentence" (TX4 0).2.1 (TX4 0).2.2.1 ∈ wsX4_word := by decide +kernel
theorem fl_X4_word_30 : Cond.fieldLink RX4 30 "BetweenBoth$Sentence" (TX4 1).2.1 (TX4 1).2.2.1 ∈ wsX4_word := by decide +kernel
theorem hd_X4_word : yX4_word.cls = RX4 ∧ yX4_word.cls ≠ "java/lang/invoke/MethodHandle" ∧ yX4_word.cls ≠ "java/lang/invoke/VarHandle" ∧ (parseMethodDescriptor yX4_word.desc).map (fun d => d.parameters.length) = some 1 := by decide +kernel
def RT_X4_word (p : Program) (l : Launch) (e : Env) (s : State) (m : MethodId) (args : Array Value) (below : List Frame) (meth : Method) (c : Code) (Q : State → Prop) (A : Nat → Prop) (G : va_G) (cI cJ cZ cO : ClassId) (a_this : Nat) (a_words : Nat) (base_ : Int32) (words_ : (Nat → Int64)) (res : Int64) : Prop := ∀ (v_ : Int64), some v_ = some res → ∀ (H : Heap) (locs : List Loc) (ls : Array Slot) (pc : Nat), decode cX4_word pc = .ok (.lreturn, 1) → va_P G vwCl [(a_this, .inr (4, [.ref a_words, .int base_])), (a_words, .inl (cJ, 160, .inr (.inl words_)))] H → va_D A [(a_this, .inr (4, [.ref a_words, .int base_])), (a_words, .inl (cJ, 160, .inr (.inl words_)))] → va_S A s.heap H locs → W p l e ({ frames := 0, cells := 0, slots := 0, locals := 0 } : Room) s m args below meth c H locs 0 0 Q (F0 m pc ls [.long v_])
set_option maxHeartbeats 4000000 in
set_option maxRecDepth 100000 in
theorem w_X4_word_0 {p : Program} {l : Launch} {e : Env} {s : State} {m : MethodId} {args : Array Value} {below : List Frame} {meth : Method} {c : Code} {Q : State → Prop} {A : Nat → Prop} {G : va_G} {cI cJ cZ cO : ClassId} {tS : Nat} (a_this : Nat) (a_words : Nat) (base_ : Int32) (words_ : (Nat → Int64)) (hA : ∀ q : Nat, s.heap.size ≤ q → A q) (hK : va_K G vwCl (xTY cI cJ cZ cO) s) (hZ : xST tS A s) (M : CallFix p m c cX4_word 2 s args wsX4_word RX4) (res : Int64) (hR : RT_X4_word p l e s m args below meth c Q A G cI cJ cZ cO a_this a_words base_ words_ res)  (x1_ : Int32) (hf : f_X4_word base_ words_ x1_ = some res) {H : Heap} {locs : List Loc} {ls : Array Slot} (hP : va_P G vwCl [(a_this, .inr (4, [.ref a_words, .int base_])), (a_words, .inl (cJ, 160, .inr (.inl words_)))] H) (hD : va_D A [(a_this, .inr (4, [.ref a_words, .int base_])), (a_words, .inl (cJ, 160, .inr (.inl words_)))]) (hS : va_S A s.heap H locs) (hl : lv_has ls 2 [(0, .ref a_this), (1, .int x1_)]) : W p l e ({ frames := 0, cells := 0, slots := 0, locals := 0 } : Room) s m args below meth c H locs 0 0 Q (F0 m 0 ls []) := by
  obtain ⟨hx, hb, hml, hown, hts⟩ := id M
  unfold f_X4_word at hf
  refine lv_aload_n hx hb dX4_word_0 rfl (lv_at hl 0 rfl) ?_
  refine xget M (C := RX4) (T := TX4) (N := 2) (ci := 4) (v := .ref a_words) uw_X4_word_X4 hK hP 0 rfl rfl 0 (by decide) fl_X4_word_11 rfl rfl dX4_word_1 ?_
  refine lv_aload_n hx hb dX4_word_4 rfl (lv_at hl 0 rfl) ?_
  refine xget M (C := RX4) (T := TX4) (N := 2) (ci := 4) (v := .int base_) uw_X4_word_X4 hK hP 0 rfl rfl 1 (by decide) fl_X4_word_30 rfl rfl dX4_word_5 ?_
  refine lv_iload_n hx hb dX4_word_8 rfl (lv_at hl 1 rfl) ?_
  refine lv_iadd hx hb dX4_word_9 ?_
  obtain ⟨j1, hj1, hij1, hf⟩ := oA_e hf
  refine xlald M hK hP 1 1 rfl rfl hj1 hij1 dX4_word_10 ?_
  exact hR _ hf _ _ _ _ dX4_word_11 hP hD hS
set_option maxHeartbeats 4000000 in
set_option maxRecDepth 100000 in
theorem c_X4_word (l : Launch) (G : va_G) (cI cJ cZ cO : ClassId) (tS sz : Nat) (a_this : Nat) (a_words : Nat) (base_ : Int32) (words_ : (Nat → Int64)) (x1_ : Int32) (v_ : Int64) (hf : f_X4_word base_ words_ x1_ = some v_) : Met l yX4_word wsX4_word ({ frames := 0, cells := 0, slots := 0, locals := 0 } : Room) (xPre G (xTY cI cJ cZ cO) tS [(a_this, .inr (4, [.ref a_words, .int base_])), (a_words, .inl (cJ, 160, .inr (.inl words_)))] sz [.ref a_this, .int x1_]) (xQl G [(a_this, .inr (4, [.ref a_words, .int base_])), (a_words, .inl (cJ, 160, .inr (.inl words_)))] sz (fun _ : Unit => [(a_this, .inr (4, [.ref a_words, .int base_])), (a_words, .inl (cJ, 160, .inr (.inl words_)))]) v_) 0 0 (va_A [(a_this, .inr (4, [.ref a_words, .int base_])), (a_words, .inl (cJ, 160, .inr (.inl words_)))] sz) := by
  refine xMet (cc := cX4_word) (maxL := 2) (ret := (some .long)) (own := RX4) (by decide +kernel) rfl rfl (Nat.le_of_ble_eq_true rfl) rfl ?_
  intro p e s m below meth c ls M hr hlk hin hsz hA hK hZ hP hD hl
  refine w_X4_word_0 a_this a_words base_ words_ hA hK hZ M v_ (fun v_' hres H locs ls pc hd hP hD hS => ?_)  x1_ hf hP hD va_S.rf hl
  cases hres
  exact xretl (W1 := fun _ : Unit => [(a_this, .inr (4, [.ref a_words, .int base_])), (a_words, .inl (cJ, 160, .inr (.inl words_)))]) M hr hlk () hP hD hS hd
/-! BetweenBoth$Look.partiesBear(LBetweenBoth$Steps;LBetweenBoth$Sentence;)I -/
theorem kc_X1_partiesBear_20 : Cond.constantLong RX1 20 (-1) ∈ wsX1_partiesBear := by decide +kernel
theorem hd_X1_partiesBear : yX1_partiesBear.cls = RX1 ∧ yX1_partiesBear.cls ≠ "java/lang/invoke/MethodHandle" ∧ yX1_partiesBear.cls ≠ "java/lang/invoke/VarHandle" ∧ (parseMethodDescriptor yX1_partiesBear.desc).map (fun d => d.parameters.length) = some 2 := by decide +kernel
def RT_X1_partiesBear (p : Program) (l : Launch) (e : Env) (s : State) (m : MethodId) (args : Array Value) (below : List Frame) (meth : Method) (c : Code) (Q : State → Prop) (A : Nat → Prop) (G : va_G) (cI cJ cZ cO : ClassId) (a_p1 : Nat) (a_p1_cells : Nat) (a_p2 : Nat) (a_p2_words : Nat) (a_this : Nat) (u_p1_count_ : Value) (u_p1_lettersOfA_ : Value) (u_p1_lettersOfB_ : Value) (p1_clauses_ : Int32) (p1_cells_ : (Nat → Int32)) (p2_base_ : Int32) (p2_words_ : (Nat → Int64)) (res : Int32) : Prop := ∀ (v_ : Int32), some v_ = some res → ∀ (H : Heap) (locs : List Loc) (ls : Array Slot) (pc : Nat), decode cX1_partiesBear pc = .ok (.ireturn, 1) → va_P G vwCl [(a_p1, .inr (5, [.ref a_p1_cells, .int p1_clauses_, u_p1_count_, u_p1_lettersOfA_, u_p1_lettersOfB_])), (a_p1_cells, .inl (cI, 320, .inl p1_cells_)), (a_p2, .inr (4, [.ref a_p2_words, .int p2_base_])), (a_p2_words, .inl (cJ, 160, .inr (.inl p2_words_)))] H → va_D A [(a_p1, .inr (5, [.ref a_p1_cells, .int p1_clauses_, u_p1_count_, u_p1_lettersOfA_, u_p1_lettersOfB_])), (a_p1_cells, .inl (cI, 320, .inl p1_cells_)), (a_p2, .inr (4, [.ref a_p2_words, .int p2_base_])), (a_p2_words, .inl (cJ, 160, .inr (.inl p2_words_)))] → va_S A s.heap H locs → W p l e ({ frames := 3, cells := 0, slots := 0, locals := 71 } : Room) s m args below meth c H locs 0 0 Q (F0 m pc ls [.int v_])
set_option maxHeartbeats 4000000 in
set_option maxRecDepth 100000 in
theorem w_X1_partiesBear_63 {p : Program} {l : Launch} {e : Env} {s : State} {m : MethodId} {args : Array Value} {below : List Frame} {meth : Method} {c : Code} {Q : State → Prop} {A : Nat → Prop} {G : va_G} {cI cJ cZ cO : ClassId} {tS : Nat} (a_p1 : Nat) (a_p1_cells : Nat) (a_p2 : Nat) (a_p2_words : Nat) (a_this : Nat) (u_p1_count_ : Value) (u_p1_lettersOfA_ : Value) (u_p1_lettersOfB_ : Value) (p1_clauses_ : Int32) (p1_cells_ : (Nat → Int32)) (p2_base_ : Int32) (p2_words_ : (Nat → Int64)) (hA : ∀ q : Nat, s.heap.size ≤ q → A q) (hK : va_K G vwCl (xTY cI cJ cZ cO) s) (hZ : xST tS A s) (M : CallFix p m c cX1_partiesBear 7 s args wsX1_partiesBear RX1) (res : Int32) (hR : RT_X1_partiesBear p l e s m args below meth c Q A G cI cJ cZ cO a_p1 a_p1_cells a_p2 a_p2_words a_this u_p1_count_ u_p1_lettersOfA_ u_p1_lettersOfB_ p1_clauses_ p1_cells_ p2_base_ p2_words_ res) (x3_ : Int32) (x4_ : Int32) (k5 : (Int32 × Int32) → Option (Int32)) (hk5 : ∀ (x3_ : Int32) (x4_ : Int32), k5 (x3_, x4_) = some res → ∀ {H : Heap} {locs : List Loc} {ls : Array Slot}, va_P G vwCl [(a_p1, .inr (5, [.ref a_p1_cells, .int p1_clauses_, u_p1_count_, u_p1_lettersOfA_, u_p1_lettersOfB_])), (a_p1_cells, .inl (cI, 320, .inl p1_cells_)), (a_p2, .inr (4, [.ref a_p2_words, .int p2_base_])), (a_p2_words, .inl (cJ, 160, .inr (.inl p2_words_)))] H → va_D A [(a_p1, .inr (5, [.ref a_p1_cells, .int p1_clauses_, u_p1_count_, u_p1_lettersOfA_, u_p1_lettersOfB_])), (a_p1_cells, .inl (cI, 320, .inl p1_cells_)), (a_p2, .inr (4, [.ref a_p2_words, .int p2_base_])), (a_p2_words, .inl (cJ, 160, .inr (.inl p2_words_)))] → va_S A s.heap H locs → lv_has ls 7 [(1, .ref a_p1), (2, .ref a_p2), (3, .int x3_), (4, .int x4_)] → W p l e ({ frames := 3, cells := 0, slots := 0, locals := 71 } : Room) s m args below meth c H locs 0 0 Q (F0 m 5 ls [])) (hf : f_X1_partiesBear_63 x3_ x4_ k5 = some res) {H : Heap} {locs : List Loc} {ls : Array Slot} (hP : va_P G vwCl [(a_p1, .inr (5, [.ref a_p1_cells, .int p1_clauses_, u_p1_count_, u_p1_lettersOfA_, u_p1_lettersOfB_])), (a_p1_cells, .inl (cI, 320, .inl p1_cells_)), (a_p2, .inr (4, [.ref a_p2_words, .int p2_base_])), (a_p2_words, .inl (cJ, 160, .inr (.inl p2_words_)))] H) (hD : va_D A [(a_p1, .inr (5, [.ref a_p1_cells, .int p1_clauses_, u_p1_count_, u_p1_lettersOfA_, u_p1_lettersOfB_])), (a_p1_cells, .inl (cI, 320, .inl p1_cells_)), (a_p2, .inr (4, [.ref a_p2_words, .int p2_base_])), (a_p2_words, .inl (cJ, 160, .inr (.inl p2_words_)))]) (hS : va_S A s.heap H locs) (hl : lv_has ls 7 [(1, .ref a_p1), (2, .ref a_p2), (3, .int x3_), (4, .int x4_)]) : W p l e ({ frames := 3, cells := 0, slots := 0, locals := 71 } : Room) s m args below meth c H locs 0 0 Q (F0 m 63 ls []) := by
  obtain ⟨hx, hb, hml, hown, hts⟩ := id M
  unfold f_X1_partiesBear_63 at hf
  obtain ⟨x4_1, ex4_1, hf⟩ := oL_e hf
  refine lv_iinc (v := x4_1) (lv' := [(4, .int x4_1), (1, .ref a_p1), (2, .ref a_p2), (3, .int x3_)]) hx hb dX1_partiesBear_63 hl (k := 3) rfl (by rw [← ex4_1]; rfl) (by decide) rfl (fun ls hl => ?_)
  refine lv_goto (tgt := 5) hx hb dX1_partiesBear_66 (by decide) ?_
  exact hk5 _ _ hf hP hD hS (lv_sub hl [1, 2, 3, 0] rfl)
set_option maxHeartbeats 4000000 in
set_option maxRecDepth 100000 in
theorem w_X1_partiesBear_43 {p : Program} {l : Launch} {e : Env} {s : State} {m : MethodId} {args : Array Value} {below : List Frame} {meth : Method} {c : Code} {Q : State → Prop} {A : Nat → Prop} {G : va_G} {cI cJ cZ cO : ClassId} {tS : Nat} (a_p1 : Nat) (a_p1_cells : Nat) (a_p2 : Nat) (a_p2_words : Nat) (a_this : Nat) (u_p1_count_ : Value) (u_p1_lettersOfA_ : Value) (u_p1_lettersOfB_ : Value) (p1_clauses_ : Int32) (p1_cells_ : (Nat → Int32)) (p2_base_ : Int32) (p2_words_ : (Nat → Int64)) (hA : ∀ q : Nat, s.heap.size ≤ q → A q) (hK : va_K G vwCl (xTY cI cJ cZ cO) s) (hZ : xST tS A s) (M : CallFix p m c cX1_partiesBear 7 s args wsX1_partiesBear RX1) (res : Int32) (hR : RT_X1_partiesBear p l e s m args below meth c Q A G cI cJ cZ cO a_p1 a_p1_cells a_p2 a_p2_words a_this u_p1_count_ u_p1_lettersOfA_ u_p1_lettersOfB_ p1_clauses_ p1_cells_ p2_base_ p2_words_ res) (x3_ : Int32) (x4_ : Int32) (x5_ : Int64) (k5 : (Int32 × Int32) → Option (Int32)) (hk5 : ∀ (x3_ : Int32) (x4_ : Int32), k5 (x3_, x4_) = some res → ∀ {H : Heap} {locs : List Loc} {ls : Array Slot}, va_P G vwCl [(a_p1, .inr (5, [.ref a_p1_cells, .int p1_clauses_, u_p1_count_, u_p1_lettersOfA_, u_p1_lettersOfB_])), (a_p1_cells, .inl (cI, 320, .inl p1_cells_)), (a_p2, .inr (4, [.ref a_p2_words, .int p2_base_])), (a_p2_words, .inl (cJ, 160, .inr (.inl p2_words_)))] H → va_D A [(a_p1, .inr (5, [.ref a_p1_cells, .int p1_clauses_, u_p1_count_, u_p1_lettersOfA_, u_p1_lettersOfB_])), (a_p1_cells, .inl (cI, 320, .inl p1_cells_)), (a_p2, .inr (4, [.ref a_p2_words, .int p2_base_])), (a_p2_words, .inl (cJ, 160, .inr (.inl p2_words_)))] → va_S A s.heap H locs → lv_has ls 7 [(1, .ref a_p1), (2, .ref a_p2), (3, .int x3_), (4, .int x4_)] → W p l e ({ frames := 3, cells := 0, slots := 0, locals := 71 } : Room) s m args below meth c H locs 0 0 Q (F0 m 5 ls [])) (hf : f_X1_partiesBear_43 p1_clauses_ p1_cells_ x3_ x4_ x5_ k5 = some res) {H : Heap} {locs : List Loc} {ls : Array Slot} (hP : va_P G vwCl [(a_p1, .inr (5, [.ref a_p1_cells, .int p1_clauses_, u_p1_count_, u_p1_lettersOfA_, u_p1_lettersOfB_])), (a_p1_cells, .inl (cI, 320, .inl p1_cells_)), (a_p2, .inr (4, [.ref a_p2_words, .int p2_base_])), (a_p2_words, .inl (cJ, 160, .inr (.inl p2_words_)))] H) (hD : va_D A [(a_p1, .inr (5, [.ref a_p1_cells, .int p1_clauses_, u_p1_count_, u_p1_lettersOfA_, u_p1_lettersOfB_])), (a_p1_cells, .inl (cI, 320, .inl p1_cells_)), (a_p2, .inr (4, [.ref a_p2_words, .int p2_base_])), (a_p2_words, .inl (cJ, 160, .inr (.inl p2_words_)))]) (hS : va_S A s.heap H locs) (hl : lv_has ls 7 [(1, .ref a_p1), (2, .ref a_p2), (3, .int x3_), (4, .int x4_), (5, .long x5_)]) : W p l e ({ frames := 3, cells := 0, slots := 0, locals := 71 } : Room) s m args below meth c H locs 0 0 Q (F0 m 43 ls []) := by
  obtain ⟨hx, hb, hml, hown, hts⟩ := id M
  unfold f_X1_partiesBear_43 at hf
  refine lv_aload_n hx hb dX1_partiesBear_43 rfl (lv_at hl 0 rfl) ?_
  refine lv_iconst (v := (1 : Int32)) hx hb dX1_partiesBear_44 (by decide) ?_
  refine lv_iload hx hb dX1_partiesBear_45 (lv_at hl 3 rfl) ?_
  obtain ⟨r1, hq2, hf⟩ := oB1_e hf
  refine xcl (wr := [(a_p2, .inr (4, [.ref a_p2_words, .int p2_base_])), (a_p2_words, .inl (cJ, 160, .inr (.inl p2_words_)))]) (ws' := fun _ => [(a_p1, .inr (5, [.ref a_p1_cells, .int p1_clauses_, u_p1_count_, u_p1_lettersOfA_, u_p1_lettersOfB_])), (a_p1_cells, .inl (cI, 320, .inl p1_cells_)), (a_p2, .inr (4, [.ref a_p2_words, .int p2_base_])), (a_p2_words, .inl (cJ, 160, .inr (.inl p2_words_)))]) hA hP hD hS (xrS (As := [.ref a_p1, .int (1 : Int32), .int x4_]) (rest := []) M hA hK hZ hP hD hS (c_X1_whereAllHold l G cI cJ cZ cO tS H.size a_p1 a_p1_cells (u_p1_count_) (u_p1_lettersOfA_) (u_p1_lettersOfB_) p1_clauses_ p1_cells_ (1 : Int32) x4_ r1 hq2) (va_cwS 3 hts gX1_partiesBear_X1_whereAllHold rfl rfl rfl hd_X1_whereAllHold ⟨Nat.le_of_ble_eq_true rfl, Nat.le_of_ble_eq_true rfl⟩) [0, 1] rfl rfl rfl hl.1 rfl (Nat.le_of_ble_eq_true rfl) dX1_partiesBear_47 ⟨Nat.le_of_ble_eq_true rfl, Nat.le_of_ble_eq_true rfl⟩) [0, 1] [2, 3] [2, 3, 0, 1] rfl rfl rfl rfl (fun _ => rfl) rfl (fun _ H locs hP hD hS => ?_)
  refine lv_lload hx hb dX1_partiesBear_50 (lv_at hl 4 rfl) ?_
  refine lv_land hx hb dX1_partiesBear_52 ?_
  refine lv_lconst (v := (0 : Int64)) hx hb dX1_partiesBear_53 (by decide) ?_
  refine W.lcmp hx hb dX1_partiesBear_54 ?_
  refine lv_if_eq (tgt := 63) hx hb dX1_partiesBear_55 (by decide) (fun hc3 => ?_) (fun hc3 => ?_)
  · have hf := oI_t hc3 hf
    exact w_X1_partiesBear_63 a_p1 a_p1_cells a_p2 a_p2_words a_this u_p1_count_ u_p1_lettersOfA_ u_p1_lettersOfB_ p1_clauses_ p1_cells_ p2_base_ p2_words_ hA hK hZ M res hR x3_ x4_ k5 hk5 hf hP hD hS (lv_sub hl [0, 1, 2, 3] rfl)
  · have hf := oI_f hc3 hf
    refine lv_iload_n hx hb dX1_partiesBear_58 rfl (lv_at hl 2 rfl) ?_
    refine lv_bipush (v := (-3 : Int32)) hx hb dX1_partiesBear_59 (by decide) ?_
    refine lv_iand hx hb dX1_partiesBear_61 ?_
    obtain ⟨x3_4, ex3_4, hf⟩ := oL_e hf
    refine xtopi ex3_4 ?_
    refine lv_istore_n (lv' := [(3, .int x3_4), (1, .ref a_p1), (2, .ref a_p2), (4, .int x4_), (5, .long x5_)]) hx hb dX1_partiesBear_62 rfl hl (by decide) rfl (fun ls hl => ?_)
    exact w_X1_partiesBear_63 a_p1 a_p1_cells a_p2 a_p2_words a_this u_p1_count_ u_p1_lettersOfA_ u_p1_lettersOfB_ p1_clauses_ p1_cells_ p2_base_ p2_words_ hA hK hZ M res hR x3_4 x4_ k5 hk5 hf hP hD hS (lv_sub hl [1, 2, 0, 3] rfl)
set_option maxHeartbeats 4000000 in
set_option maxRecDepth 100000 in
theorem wb_X1_partiesBear_5 {p : Program} {l : Launch} {e : Env} {s : State} {m : MethodId} {args : Array Value} {below : List Frame} {meth : Method} {c : Code} {Q : State → Prop} {A : Nat → Prop} {G : va_G} {cI cJ cZ cO : ClassId} {tS : Nat} (a_p1 : Nat) (a_p1_cells : Nat) (a_p2 : Nat) (a_p2_words : Nat) (a_this : Nat) (u_p1_count_ : Value) (u_p1_lettersOfA_ : Value) (u_p1_lettersOfB_ : Value) (p1_clauses_ : Int32) (p1_cells_ : (Nat → Int32)) (p2_base_ : Int32) (p2_words_ : (Nat → Int64)) (hA : ∀ q : Nat, s.heap.size ≤ q → A q) (hK : va_K G vwCl (xTY cI cJ cZ cO) s) (hZ : xST tS A s) (M : CallFix p m c cX1_partiesBear 7 s args wsX1_partiesBear RX1) (res : Int32) (hR : RT_X1_partiesBear p l e s m args below meth c Q A G cI cJ cZ cO a_p1 a_p1_cells a_p2 a_p2_words a_this u_p1_count_ u_p1_lettersOfA_ u_p1_lettersOfB_ p1_clauses_ p1_cells_ p2_base_ p2_words_ res)   (k5 : (Int32 × Int32) → Option (Int32)) (hk5 : ∀ (x3_ : Int32) (x4_ : Int32), k5 (x3_, x4_) = some res → ∀ {H : Heap} {locs : List Loc} {ls : Array Slot}, va_P G vwCl [(a_p1, .inr (5, [.ref a_p1_cells, .int p1_clauses_, u_p1_count_, u_p1_lettersOfA_, u_p1_lettersOfB_])), (a_p1_cells, .inl (cI, 320, .inl p1_cells_)), (a_p2, .inr (4, [.ref a_p2_words, .int p2_base_])), (a_p2_words, .inl (cJ, 160, .inr (.inl p2_words_)))] H → va_D A [(a_p1, .inr (5, [.ref a_p1_cells, .int p1_clauses_, u_p1_count_, u_p1_lettersOfA_, u_p1_lettersOfB_])), (a_p1_cells, .inl (cI, 320, .inl p1_cells_)), (a_p2, .inr (4, [.ref a_p2_words, .int p2_base_])), (a_p2_words, .inl (cJ, 160, .inr (.inl p2_words_)))] → va_S A s.heap H locs → lv_has ls 7 [(1, .ref a_p1), (2, .ref a_p2), (3, .int x3_), (4, .int x4_)] → W p l e ({ frames := 3, cells := 0, slots := 0, locals := 71 } : Room) s m args below meth c H locs 0 0 Q (F0 m 5 ls [])) (x3_ : Int32) (x4_ : Int32) (hf : b_X1_partiesBear_5 p1_clauses_ p1_cells_ p2_base_ p2_words_ k5 x3_ x4_ = some res) {H : Heap} {locs : List Loc} {ls : Array Slot} (hP : va_P G vwCl [(a_p1, .inr (5, [.ref a_p1_cells, .int p1_clauses_, u_p1_count_, u_p1_lettersOfA_, u_p1_lettersOfB_])), (a_p1_cells, .inl (cI, 320, .inl p1_cells_)), (a_p2, .inr (4, [.ref a_p2_words, .int p2_base_])), (a_p2_words, .inl (cJ, 160, .inr (.inl p2_words_)))] H) (hD : va_D A [(a_p1, .inr (5, [.ref a_p1_cells, .int p1_clauses_, u_p1_count_, u_p1_lettersOfA_, u_p1_lettersOfB_])), (a_p1_cells, .inl (cI, 320, .inl p1_cells_)), (a_p2, .inr (4, [.ref a_p2_words, .int p2_base_])), (a_p2_words, .inl (cJ, 160, .inr (.inl p2_words_)))]) (hS : va_S A s.heap H locs) (hl : lv_has ls 7 [(1, .ref a_p1), (2, .ref a_p2), (3, .int x3_), (4, .int x4_)]) : W p l e ({ frames := 3, cells := 0, slots := 0, locals := 71 } : Room) s m args below meth c H locs 0 0 Q (F0 m 5 ls []) := by
  obtain ⟨hx, hb, hml, hown, hts⟩ := id M
  unfold b_X1_partiesBear_5 at hf
  refine lv_iload hx hb dX1_partiesBear_5 (lv_at hl 3 rfl) ?_
  refine lv_iconst (v := (4 : Int32)) hx hb dX1_partiesBear_7 (by decide) ?_
  refine lv_icmp_ge (tgt := 69) hx hb dX1_partiesBear_8 (by decide) (fun hc1 => ?_) (fun hc1 => ?_)
  · have hf := oI_t hc1 hf
    refine lv_iload_n hx hb dX1_partiesBear_69 rfl (lv_at hl 2 rfl) ?_
    exact hR _ hf _ _ _ _ dX1_partiesBear_70 hP hD hS
  · have hf := oI_f hc1 hf
    refine lv_aload_n hx hb dX1_partiesBear_11 rfl (lv_at hl 1 rfl) ?_
    refine lv_iload hx hb dX1_partiesBear_12 (lv_at hl 3 rfl) ?_
    obtain ⟨r2, hq3, hf⟩ := oB1_e hf
    refine xcl (wr := [(a_p1, .inr (5, [.ref a_p1_cells, .int p1_clauses_, u_p1_count_, u_p1_lettersOfA_, u_p1_lettersOfB_])), (a_p1_cells, .inl (cI, 320, .inl p1_cells_))]) (ws' := fun _ => [(a_p1, .inr (5, [.ref a_p1_cells, .int p1_clauses_, u_p1_count_, u_p1_lettersOfA_, u_p1_lettersOfB_])), (a_p1_cells, .inl (cI, 320, .inl p1_cells_)), (a_p2, .inr (4, [.ref a_p2_words, .int p2_base_])), (a_p2_words, .inl (cJ, 160, .inr (.inl p2_words_)))]) hA hP hD hS (xrV (As := [.int x4_]) (rest := []) M hA hK hZ hP hD hS (c_X4_word l G cI cJ cZ cO tS H.size a_p2 a_p2_words p2_base_ p2_words_ x4_ r2 hq3) (cwV 1 hts gX1_partiesBear_X4_word rfl rfl rfl hd_X4_word ⟨Nat.le_of_ble_eq_true rfl, Nat.le_of_ble_eq_true rfl⟩) [2, 3] rfl rfl 2 rfl rfl rfl hl.1 rfl (Nat.le_of_ble_eq_true rfl) dX1_partiesBear_14 ⟨Nat.le_of_ble_eq_true rfl, Nat.le_of_ble_eq_true rfl⟩) [2, 3] [0, 1] [0, 1, 2, 3] rfl rfl rfl rfl (fun _ => rfl) rfl (fun _ H locs hP hD hS => ?_)
    refine lv_lstore (lv' := [(5, .long r2), (1, .ref a_p1), (2, .ref a_p2), (3, .int x3_), (4, .int x4_)]) hx hb dX1_partiesBear_17 hl (by decide) rfl (fun ls hl => ?_)
    refine lv_aload_n hx hb dX1_partiesBear_19 rfl (lv_at hl 1 rfl) ?_
    refine lv_iconst (v := (0 : Int32)) hx hb dX1_partiesBear_20 (by decide) ?_
    refine lv_iload hx hb dX1_partiesBear_21 (lv_at hl 4 rfl) ?_
    obtain ⟨r4, hq5, hf⟩ := oB1_e hf
    refine xcl (wr := [(a_p2, .inr (4, [.ref a_p2_words, .int p2_base_])), (a_p2_words, .inl (cJ, 160, .inr (.inl p2_words_)))]) (ws' := fun _ => [(a_p1, .inr (5, [.ref a_p1_cells, .int p1_clauses_, u_p1_count_, u_p1_lettersOfA_, u_p1_lettersOfB_])), (a_p1_cells, .inl (cI, 320, .inl p1_cells_)), (a_p2, .inr (4, [.ref a_p2_words, .int p2_base_])), (a_p2_words, .inl (cJ, 160, .inr (.inl p2_words_)))]) hA hP hD hS (xrS (As := [.ref a_p1, .int (0 : Int32), .int x4_]) (rest := []) M hA hK hZ hP hD hS (c_X1_whereAllHold l G cI cJ cZ cO tS H.size a_p1 a_p1_cells (u_p1_count_) (u_p1_lettersOfA_) (u_p1_lettersOfB_) p1_clauses_ p1_cells_ (0 : Int32) x4_ r4 hq5) (va_cwS 3 hts gX1_partiesBear_X1_whereAllHold rfl rfl rfl hd_X1_whereAllHold ⟨Nat.le_of_ble_eq_true rfl, Nat.le_of_ble_eq_true rfl⟩) [0, 1] rfl rfl rfl hl.1 rfl (Nat.le_of_ble_eq_true rfl) dX1_partiesBear_23 ⟨Nat.le_of_ble_eq_true rfl, Nat.le_of_ble_eq_true rfl⟩) [0, 1] [2, 3] [2, 3, 0, 1] rfl rfl rfl rfl (fun _ => rfl) rfl (fun _ H locs hP hD hS => ?_)
    refine lv_lload hx hb dX1_partiesBear_26 (lv_at hl 0 rfl) ?_
    refine lv_ldc2 (v := (-1)) hx hb hown (hts _ kc_X1_partiesBear_20) dX1_partiesBear_28 ?_
    refine lv_lxor hx hb dX1_partiesBear_31 ?_
    refine lv_land hx hb dX1_partiesBear_32 ?_
    refine lv_lconst (v := (0 : Int64)) hx hb dX1_partiesBear_33 (by decide) ?_
    refine W.lcmp hx hb dX1_partiesBear_34 ?_
    refine lv_if_eq (tgt := 43) hx hb dX1_partiesBear_35 (by decide) (fun hc6 => ?_) (fun hc6 => ?_)
    · have hf := oI_t hc6 hf
      exact w_X1_partiesBear_43 a_p1 a_p1_cells a_p2 a_p2_words a_this u_p1_count_ u_p1_lettersOfA_ u_p1_lettersOfB_ p1_clauses_ p1_cells_ p2_base_ p2_words_ hA hK hZ M res hR x3_ x4_ r2 k5 hk5 hf hP hD hS (lv_sub hl [1, 2, 3, 4, 0] rfl)
    · have hf := oI_f hc6 hf
      refine lv_iload_n hx hb dX1_partiesBear_38 rfl (lv_at hl 3 rfl) ?_
      refine lv_bipush (v := (-2 : Int32)) hx hb dX1_partiesBear_39 (by decide) ?_
      refine lv_iand hx hb dX1_partiesBear_41 ?_
      obtain ⟨x3_7, ex3_7, hf⟩ := oL_e hf
      refine xtopi ex3_7 ?_
      refine lv_istore_n (lv' := [(3, .int x3_7), (5, .long r2), (1, .ref a_p1), (2, .ref a_p2), (4, .int x4_)]) hx hb dX1_partiesBear_42 rfl hl (by decide) rfl (fun ls hl => ?_)
      exact w_X1_partiesBear_43 a_p1 a_p1_cells a_p2 a_p2_words a_this u_p1_count_ u_p1_lettersOfA_ u_p1_lettersOfB_ p1_clauses_ p1_cells_ p2_base_ p2_words_ hA hK hZ M res hR x3_7 x4_ r2 k5 hk5 hf hP hD hS (lv_sub hl [2, 3, 0, 4, 1] rfl)
set_option maxHeartbeats 4000000 in
set_option maxRecDepth 100000 in
theorem wl_X1_partiesBear_5 {p : Program} {l : Launch} {e : Env} {s : State} {m : MethodId} {args : Array Value} {below : List Frame} {meth : Method} {c : Code} {Q : State → Prop} {A : Nat → Prop} {G : va_G} {cI cJ cZ cO : ClassId} {tS : Nat} (a_p1 : Nat) (a_p1_cells : Nat) (a_p2 : Nat) (a_p2_words : Nat) (a_this : Nat) (u_p1_count_ : Value) (u_p1_lettersOfA_ : Value) (u_p1_lettersOfB_ : Value) (p1_clauses_ : Int32) (p1_cells_ : (Nat → Int32)) (p2_base_ : Int32) (p2_words_ : (Nat → Int64)) (hA : ∀ q : Nat, s.heap.size ≤ q → A q) (hK : va_K G vwCl (xTY cI cJ cZ cO) s) (hZ : xST tS A s) (M : CallFix p m c cX1_partiesBear 7 s args wsX1_partiesBear RX1) (res : Int32) (hR : RT_X1_partiesBear p l e s m args below meth c Q A G cI cJ cZ cO a_p1 a_p1_cells a_p2 a_p2_words a_this u_p1_count_ u_p1_lettersOfA_ u_p1_lettersOfB_ p1_clauses_ p1_cells_ p2_base_ p2_words_ res)   (n : Nat) : ∀ (x3_ : Int32) (x4_ : Int32), oF (fun k z => b_X1_partiesBear_5 p1_clauses_ p1_cells_ p2_base_ p2_words_ k z.1 z.2) n (x3_, x4_) = some res → ∀ {H : Heap} {locs : List Loc} {ls : Array Slot}, va_P G vwCl [(a_p1, .inr (5, [.ref a_p1_cells, .int p1_clauses_, u_p1_count_, u_p1_lettersOfA_, u_p1_lettersOfB_])), (a_p1_cells, .inl (cI, 320, .inl p1_cells_)), (a_p2, .inr (4, [.ref a_p2_words, .int p2_base_])), (a_p2_words, .inl (cJ, 160, .inr (.inl p2_words_)))] H → va_D A [(a_p1, .inr (5, [.ref a_p1_cells, .int p1_clauses_, u_p1_count_, u_p1_lettersOfA_, u_p1_lettersOfB_])), (a_p1_cells, .inl (cI, 320, .inl p1_cells_)), (a_p2, .inr (4, [.ref a_p2_words, .int p2_base_])), (a_p2_words, .inl (cJ, 160, .inr (.inl p2_words_)))] → va_S A s.heap H locs → lv_has ls 7 [(1, .ref a_p1), (2, .ref a_p2), (3, .int x3_), (4, .int x4_)] → W p l e ({ frames := 3, cells := 0, slots := 0, locals := 71 } : Room) s m args below meth c H locs 0 0 Q (F0 m 5 ls []) := by
  induction n with
  | zero => intro x3_ x4_ hf; cases hf
  | succ n ih =>
    intro x3_ x4_ hf H locs ls hP hD hS hl
    exact wb_X1_partiesBear_5 a_p1 a_p1_cells a_p2 a_p2_words a_this u_p1_count_ u_p1_lettersOfA_ u_p1_lettersOfB_ p1_clauses_ p1_cells_ p2_base_ p2_words_ hA hK hZ M res hR   _ ih x3_ x4_ hf hP hD hS hl
set_option maxHeartbeats 4000000 in
set_option maxRecDepth 100000 in
theorem w_X1_partiesBear_0 {p : Program} {l : Launch} {e : Env} {s : State} {m : MethodId} {args : Array Value} {below : List Frame} {meth : Method} {c : Code} {Q : State → Prop} {A : Nat → Prop} {G : va_G} {cI cJ cZ cO : ClassId} {tS : Nat} (a_p1 : Nat) (a_p1_cells : Nat) (a_p2 : Nat) (a_p2_words : Nat) (a_this : Nat) (u_p1_count_ : Value) (u_p1_lettersOfA_ : Value) (u_p1_lettersOfB_ : Value) (p1_clauses_ : Int32) (p1_cells_ : (Nat → Int32)) (p2_base_ : Int32) (p2_words_ : (Nat → Int64)) (hA : ∀ q : Nat, s.heap.size ≤ q → A q) (hK : va_K G vwCl (xTY cI cJ cZ cO) s) (hZ : xST tS A s) (M : CallFix p m c cX1_partiesBear 7 s args wsX1_partiesBear RX1) (res : Int32) (hR : RT_X1_partiesBear p l e s m args below meth c Q A G cI cJ cZ cO a_p1 a_p1_cells a_p2 a_p2_words a_this u_p1_count_ u_p1_lettersOfA_ u_p1_lettersOfB_ p1_clauses_ p1_cells_ p2_base_ p2_words_ res)   (hf : f_X1_partiesBear p1_clauses_ p1_cells_ p2_base_ p2_words_ = some res) {H : Heap} {locs : List Loc} {ls : Array Slot} (hP : va_P G vwCl [(a_p1, .inr (5, [.ref a_p1_cells, .int p1_clauses_, u_p1_count_, u_p1_lettersOfA_, u_p1_lettersOfB_])), (a_p1_cells, .inl (cI, 320, .inl p1_cells_)), (a_p2, .inr (4, [.ref a_p2_words, .int p2_base_])), (a_p2_words, .inl (cJ, 160, .inr (.inl p2_words_)))] H) (hD : va_D A [(a_p1, .inr (5, [.ref a_p1_cells, .int p1_clauses_, u_p1_count_, u_p1_lettersOfA_, u_p1_lettersOfB_])), (a_p1_cells, .inl (cI, 320, .inl p1_cells_)), (a_p2, .inr (4, [.ref a_p2_words, .int p2_base_])), (a_p2_words, .inl (cJ, 160, .inr (.inl p2_words_)))]) (hS : va_S A s.heap H locs) (hl : lv_has ls 7 [(0, .ref a_this), (1, .ref a_p1), (2, .ref a_p2)]) : W p l e ({ frames := 3, cells := 0, slots := 0, locals := 71 } : Room) s m args below meth c H locs 0 0 Q (F0 m 0 ls []) := by
  obtain ⟨hx, hb, hml, hown, hts⟩ := id M
  unfold f_X1_partiesBear at hf
  refine lv_iconst (v := (3 : Int32)) hx hb dX1_partiesBear_0 (by decide) ?_
  refine lv_istore_n (lv' := [(3, .int (3 : Int32)), (0, .ref a_this), (1, .ref a_p1), (2, .ref a_p2)]) hx hb dX1_partiesBear_1 rfl hl (by decide) rfl (fun ls hl => ?_)
  refine lv_iconst (v := (0 : Int32)) hx hb dX1_partiesBear_2 (by decide) ?_
  refine lv_istore (lv' := [(4, .int (0 : Int32)), (3, .int (3 : Int32)), (0, .ref a_this), (1, .ref a_p1), (2, .ref a_p2)]) hx hb dX1_partiesBear_3 hl (by decide) rfl (fun ls hl => ?_)
  exact wl_X1_partiesBear_5 a_p1 a_p1_cells a_p2 a_p2_words a_this u_p1_count_ u_p1_lettersOfA_ u_p1_lettersOfB_ p1_clauses_ p1_cells_ p2_base_ p2_words_ hA hK hZ M res hR   xN (3 : Int32) (0 : Int32) hf hP hD hS (lv_sub hl [3, 4, 1, 0] rfl)
set_option maxHeartbeats 4000000 in
set_option maxRecDepth 100000 in
theorem c_X1_partiesBear (l : Launch) (G : va_G) (cI cJ cZ cO : ClassId) (tS sz : Nat) (a_p1 : Nat) (a_p1_cells : Nat) (a_p2 : Nat) (a_p2_words : Nat) (a_this : Nat) (u_p1_count_ : Value) (u_p1_lettersOfA_ : Value) (u_p1_lettersOfB_ : Value) (p1_clauses_ : Int32) (p1_cells_ : (Nat → Int32)) (p2_base_ : Int32) (p2_words_ : (Nat → Int64))  (v_ : Int32) (hf : f_X1_partiesBear p1_clauses_ p1_cells_ p2_base_ p2_words_ = some v_) : Met l yX1_partiesBear wsX1_partiesBear ({ frames := 3, cells := 0, slots := 0, locals := 71 } : Room) (xPre G (xTY cI cJ cZ cO) tS [(a_p1, .inr (5, [.ref a_p1_cells, .int p1_clauses_, u_p1_count_, u_p1_lettersOfA_, u_p1_lettersOfB_])), (a_p1_cells, .inl (cI, 320, .inl p1_cells_)), (a_p2, .inr (4, [.ref a_p2_words, .int p2_base_])), (a_p2_words, .inl (cJ, 160, .inr (.inl p2_words_)))] sz [.ref a_this, .ref a_p1, .ref a_p2]) (xQi G [(a_p1, .inr (5, [.ref a_p1_cells, .int p1_clauses_, u_p1_count_, u_p1_lettersOfA_, u_p1_lettersOfB_])), (a_p1_cells, .inl (cI, 320, .inl p1_cells_)), (a_p2, .inr (4, [.ref a_p2_words, .int p2_base_])), (a_p2_words, .inl (cJ, 160, .inr (.inl p2_words_)))] sz (fun _ : Unit => [(a_p1, .inr (5, [.ref a_p1_cells, .int p1_clauses_, u_p1_count_, u_p1_lettersOfA_, u_p1_lettersOfB_])), (a_p1_cells, .inl (cI, 320, .inl p1_cells_)), (a_p2, .inr (4, [.ref a_p2_words, .int p2_base_])), (a_p2_words, .inl (cJ, 160, .inr (.inl p2_words_)))]) v_) 0 0 (va_A [(a_p1, .inr (5, [.ref a_p1_cells, .int p1_clauses_, u_p1_count_, u_p1_lettersOfA_, u_p1_lettersOfB_])), (a_p1_cells, .inl (cI, 320, .inl p1_cells_)), (a_p2, .inr (4, [.ref a_p2_words, .int p2_base_])), (a_p2_words, .inl (cJ, 160, .inr (.inl p2_words_)))] sz) := by
  refine xMet (cc := cX1_partiesBear) (maxL := 7) (ret := (some .int)) (own := RX1) (by decide +kernel) rfl rfl (Nat.le_of_ble_eq_true rfl) rfl ?_
  intro p e s m below meth c ls M hr hlk hin hsz hA hK hZ hP hD hl
  refine w_X1_partiesBear_0 a_p1 a_p1_cells a_p2 a_p2_words a_this u_p1_count_ u_p1_lettersOfA_ u_p1_lettersOfB_ p1_clauses_ p1_cells_ p2_base_ p2_words_ hA hK hZ M v_ (fun v_' hres H locs ls pc hd hP hD hS => ?_)   hf hP hD va_S.rf hl
  cases hres
  exact xreti (W1 := fun _ : Unit => [(a_p1, .inr (5, [.ref a_p1_cells, .int p1_clauses_, u_p1_count_, u_p1_lettersOfA_, u_p1_lettersOfB_])), (a_p1_cells, .inl (cI, 320, .inl p1_cells_)), (a_p2, .inr (4, [.ref a_p2_words, .int p2_base_])), (a_p2_words, .inl (cJ, 160, .inr (.inl p2_words_)))]) M hr hlk () hP hD hS hd
/-! BetweenBoth$Look.readClauses(LBetweenBoth$Steps;)V -/
theorem uw_X1_readClauses_X1 : ∀ w ∈ u_ws RX1 TX1 2, w ∈ wsX1_readClauses := by decide +kernel
theorem fl_X1_readClauses_11 : Cond.fieldLink RX1 11 "BetweenBoth$Look" (TX1 0).2.1 (TX1 0).2.2.1 ∈ wsX1_readClauses := by decide +kernel
theorem kc_X1_readClauses_20 : Cond.constantLong RX1 20 (-1) ∈ wsX1_readClauses := by decide +kernel
theorem fl_X1_readClauses_17 : Cond.fieldLink RX1 17 "BetweenBoth$Look" (TX1 1).2.1 (TX1 1).2.2.1 ∈ wsX1_readClauses := by decide +kernel
theorem uw_X1_readClauses_X5 : ∀ w ∈ u_ws RX5 TX5 5, w ∈ wsX1_readClauses := by decide +kernel
theorem fl_X1_readClauses_22 : Cond.fieldLink RX1 22 "BetweenBoth$Steps" (TX5 1).2.1 (TX5 1).2.2.1 ∈ wsX1_readClauses := by decide +kernel
theorem hd_X1_readClauses : yX1_readClauses.cls = RX1 ∧ yX1_readClauses.cls ≠ "java/lang/invoke/MethodHandle" ∧ yX1_readClauses.cls ≠ "java/lang/invoke/VarHandle" ∧ (parseMethodDescriptor yX1_readClauses.desc).map (fun d => d.parameters.length) = some 1 := by decide +kernel
def RT_X1_readClauses (p : Program) (l : Launch) (e : Env) (s : State) (m : MethodId) (args : Array Value) (below : List Frame) (meth : Method) (c : Code) (Q : State → Prop) (A : Nat → Prop) (G : va_G) (cI cJ cZ cO : ClassId) (a_this : Nat) (a_rows : Nat) (a_ofClauses : Nat) (a_p1 : Nat) (a_p1_cells : Nat) (u_p1_count_ : Value) (u_p1_lettersOfA_ : Value) (u_p1_lettersOfB_ : Value) (p1_clauses_ : Int32) (p1_cells_ : (Nat → Int32)) (res : (Nat → Int64) × (Nat → Int64)) : Prop := ∀ (o_rows_ : (Nat → Int64)) (o_ofClauses_ : (Nat → Int64)), some (o_rows_, o_ofClauses_) = some res → ∀ (H : Heap) (locs : List Loc) (ls : Array Slot) (pc : Nat), decode cX1_readClauses pc = .ok (.return_, 1) → va_P G vwCl [(a_this, .inr (1, [.ref a_rows, .ref a_ofClauses])), (a_rows, .inl (cJ, 44, .inr (.inl o_rows_))), (a_ofClauses, .inl (cJ, 40, .inr (.inl o_ofClauses_))), (a_p1, .inr (5, [.ref a_p1_cells, .int p1_clauses_, u_p1_count_, u_p1_lettersOfA_, u_p1_lettersOfB_])), (a_p1_cells, .inl (cI, 320, .inl p1_cells_))] H → va_D A [(a_this, .inr (1, [.ref a_rows, .ref a_ofClauses])), (a_rows, .inl (cJ, 44, .inr (.inl o_rows_))), (a_ofClauses, .inl (cJ, 40, .inr (.inl o_ofClauses_))), (a_p1, .inr (5, [.ref a_p1_cells, .int p1_clauses_, u_p1_count_, u_p1_lettersOfA_, u_p1_lettersOfB_])), (a_p1_cells, .inl (cI, 320, .inl p1_cells_))] → va_S A s.heap H locs → W p l e ({ frames := 2, cells := 0, slots := 0, locals := 46 } : Room) s m args below meth c H locs 0 0 Q (F0 m pc ls [])
set_option maxHeartbeats 4000000 in
set_option maxRecDepth 100000 in
theorem wb_X1_readClauses_57 {p : Program} {l : Launch} {e : Env} {s : State} {m : MethodId} {args : Array Value} {below : List Frame} {meth : Method} {c : Code} {Q : State → Prop} {A : Nat → Prop} {G : va_G} {cI cJ cZ cO : ClassId} {tS : Nat} (a_this : Nat) (a_rows : Nat) (a_ofClauses : Nat) (a_p1 : Nat) (a_p1_cells : Nat) (u_p1_count_ : Value) (u_p1_lettersOfA_ : Value) (u_p1_lettersOfB_ : Value) (p1_clauses_ : Int32) (p1_cells_ : (Nat → Int32)) (hA : ∀ q : Nat, s.heap.size ≤ q → A q) (hK : va_K G vwCl (xTY cI cJ cZ cO) s) (hZ : xST tS A s) (M : CallFix p m c cX1_readClauses 4 s args wsX1_readClauses RX1) (res : (Nat → Int64) × (Nat → Int64)) (hR : RT_X1_readClauses p l e s m args below meth c Q A G cI cJ cZ cO a_this a_rows a_ofClauses a_p1 a_p1_cells u_p1_count_ u_p1_lettersOfA_ u_p1_lettersOfB_ p1_clauses_ p1_cells_ res) (ofClauses_ : (Nat → Int64))  (k57 : ((Nat → Int64) × Int32) → Option ((Nat → Int64) × (Nat → Int64))) (hk57 : ∀ (rows_ : (Nat → Int64)) (x2_ : Int32), k57 (rows_, x2_) = some res → ∀ {H : Heap} {locs : List Loc} {ls : Array Slot}, va_P G vwCl [(a_this, .inr (1, [.ref a_rows, .ref a_ofClauses])), (a_rows, .inl (cJ, 44, .inr (.inl rows_))), (a_ofClauses, .inl (cJ, 40, .inr (.inl ofClauses_))), (a_p1, .inr (5, [.ref a_p1_cells, .int p1_clauses_, u_p1_count_, u_p1_lettersOfA_, u_p1_lettersOfB_])), (a_p1_cells, .inl (cI, 320, .inl p1_cells_))] H → va_D A [(a_this, .inr (1, [.ref a_rows, .ref a_ofClauses])), (a_rows, .inl (cJ, 44, .inr (.inl rows_))), (a_ofClauses, .inl (cJ, 40, .inr (.inl ofClauses_))), (a_p1, .inr (5, [.ref a_p1_cells, .int p1_clauses_, u_p1_count_, u_p1_lettersOfA_, u_p1_lettersOfB_])), (a_p1_cells, .inl (cI, 320, .inl p1_cells_))] → va_S A s.heap H locs → lv_has ls 4 [(0, .ref a_this), (2, .int x2_)] → W p l e ({ frames := 2, cells := 0, slots := 0, locals := 46 } : Room) s m args below meth c H locs 0 0 Q (F0 m 57 ls [])) (rows_ : (Nat → Int64)) (x2_ : Int32) (hf : b_X1_readClauses_57 ofClauses_ k57 rows_ x2_ = some res) {H : Heap} {locs : List Loc} {ls : Array Slot} (hP : va_P G vwCl [(a_this, .inr (1, [.ref a_rows, .ref a_ofClauses])), (a_rows, .inl (cJ, 44, .inr (.inl rows_))), (a_ofClauses, .inl (cJ, 40, .inr (.inl ofClauses_))), (a_p1, .inr (5, [.ref a_p1_cells, .int p1_clauses_, u_p1_count_, u_p1_lettersOfA_, u_p1_lettersOfB_])), (a_p1_cells, .inl (cI, 320, .inl p1_cells_))] H) (hD : va_D A [(a_this, .inr (1, [.ref a_rows, .ref a_ofClauses])), (a_rows, .inl (cJ, 44, .inr (.inl rows_))), (a_ofClauses, .inl (cJ, 40, .inr (.inl ofClauses_))), (a_p1, .inr (5, [.ref a_p1_cells, .int p1_clauses_, u_p1_count_, u_p1_lettersOfA_, u_p1_lettersOfB_])), (a_p1_cells, .inl (cI, 320, .inl p1_cells_))]) (hS : va_S A s.heap H locs) (hl : lv_has ls 4 [(0, .ref a_this), (2, .int x2_)]) : W p l e ({ frames := 2, cells := 0, slots := 0, locals := 46 } : Room) s m args below meth c H locs 0 0 Q (F0 m 57 ls []) := by
  obtain ⟨hx, hb, hml, hown, hts⟩ := id M
  unfold b_X1_readClauses_57 at hf
  refine lv_iload_n hx hb dX1_readClauses_57 rfl (lv_at hl 1 rfl) ?_
  refine lv_iconst (v := (4 : Int32)) hx hb dX1_readClauses_58 (by decide) ?_
  refine lv_icmp_ge (tgt := 80) hx hb dX1_readClauses_59 (by decide) (fun hc1 => ?_) (fun hc1 => ?_)
  · have hf := oI_t hc1 hf
    exact hR _ _ hf _ _ _ _ dX1_readClauses_80 hP hD hS
  · have hf := oI_f hc1 hf
    refine lv_aload_n hx hb dX1_readClauses_62 rfl (lv_at hl 0 rfl) ?_
    refine xget M (C := RX1) (T := TX1) (N := 2) (ci := 1) (v := .ref a_rows) uw_X1_readClauses_X1 hK hP 0 rfl rfl 0 (by decide) fl_X1_readClauses_11 rfl rfl dX1_readClauses_63 ?_
    refine lv_bipush (v := (40 : Int32)) hx hb dX1_readClauses_66 (by decide) ?_
    refine lv_iload_n hx hb dX1_readClauses_68 rfl (lv_at hl 1 rfl) ?_
    refine lv_iadd hx hb dX1_readClauses_69 ?_
    refine lv_ldc2 (v := (-1)) hx hb hown (hts _ kc_X1_readClauses_20) dX1_readClauses_70 ?_
    obtain ⟨j2, hj2, hij2, hf⟩ := oA_e hf
    obtain ⟨rows_3, erows_3, hf⟩ := oL_e hf
    refine xlast M hK hP hD hS 1 1 rfl rfl hj2 hij2 erows_3 [(a_this, .inr (1, [.ref a_rows, .ref a_ofClauses])), (a_rows, .inl (cJ, 44, .inr (.inl rows_3))), (a_ofClauses, .inl (cJ, 40, .inr (.inl ofClauses_))), (a_p1, .inr (5, [.ref a_p1_cells, .int p1_clauses_, u_p1_count_, u_p1_lettersOfA_, u_p1_lettersOfB_])), (a_p1_cells, .inl (cI, 320, .inl p1_cells_))] rfl dX1_readClauses_73 (fun H locs hP hD hS => ?_)
    obtain ⟨x2_4, ex2_4, hf⟩ := oL_e hf
    refine lv_iinc (v := x2_4) (lv' := [(2, .int x2_4), (0, .ref a_this)]) hx hb dX1_readClauses_74 hl (k := 1) rfl (by rw [← ex2_4]; rfl) (by decide) rfl (fun ls hl => ?_)
    refine lv_goto (tgt := 57) hx hb dX1_readClauses_77 (by decide) ?_
    exact hk57 _ _ hf hP hD hS (lv_sub hl [1, 0] rfl)
set_option maxHeartbeats 4000000 in
set_option maxRecDepth 100000 in
theorem wl_X1_readClauses_57 {p : Program} {l : Launch} {e : Env} {s : State} {m : MethodId} {args : Array Value} {below : List Frame} {meth : Method} {c : Code} {Q : State → Prop} {A : Nat → Prop} {G : va_G} {cI cJ cZ cO : ClassId} {tS : Nat} (a_this : Nat) (a_rows : Nat) (a_ofClauses : Nat) (a_p1 : Nat) (a_p1_cells : Nat) (u_p1_count_ : Value) (u_p1_lettersOfA_ : Value) (u_p1_lettersOfB_ : Value) (p1_clauses_ : Int32) (p1_cells_ : (Nat → Int32)) (hA : ∀ q : Nat, s.heap.size ≤ q → A q) (hK : va_K G vwCl (xTY cI cJ cZ cO) s) (hZ : xST tS A s) (M : CallFix p m c cX1_readClauses 4 s args wsX1_readClauses RX1) (res : (Nat → Int64) × (Nat → Int64)) (hR : RT_X1_readClauses p l e s m args below meth c Q A G cI cJ cZ cO a_this a_rows a_ofClauses a_p1 a_p1_cells u_p1_count_ u_p1_lettersOfA_ u_p1_lettersOfB_ p1_clauses_ p1_cells_ res) (ofClauses_ : (Nat → Int64))  (n : Nat) : ∀ (rows_ : (Nat → Int64)) (x2_ : Int32), oF (fun k z => b_X1_readClauses_57 ofClauses_ k z.1 z.2) n (rows_, x2_) = some res → ∀ {H : Heap} {locs : List Loc} {ls : Array Slot}, va_P G vwCl [(a_this, .inr (1, [.ref a_rows, .ref a_ofClauses])), (a_rows, .inl (cJ, 44, .inr (.inl rows_))), (a_ofClauses, .inl (cJ, 40, .inr (.inl ofClauses_))), (a_p1, .inr (5, [.ref a_p1_cells, .int p1_clauses_, u_p1_count_, u_p1_lettersOfA_, u_p1_lettersOfB_])), (a_p1_cells, .inl (cI, 320, .inl p1_cells_))] H → va_D A [(a_this, .inr (1, [.ref a_rows, .ref a_ofClauses])), (a_rows, .inl (cJ, 44, .inr (.inl rows_))), (a_ofClauses, .inl (cJ, 40, .inr (.inl ofClauses_))), (a_p1, .inr (5, [.ref a_p1_cells, .int p1_clauses_, u_p1_count_, u_p1_lettersOfA_, u_p1_lettersOfB_])), (a_p1_cells, .inl (cI, 320, .inl p1_cells_))] → va_S A s.heap H locs → lv_has ls 4 [(0, .ref a_this), (2, .int x2_)] → W p l e ({ frames := 2, cells := 0, slots := 0, locals := 46 } : Room) s m args below meth c H locs 0 0 Q (F0 m 57 ls []) := by
  induction n with
  | zero => intro rows_ x2_ hf; cases hf
  | succ n ih =>
    intro rows_ x2_ hf H locs ls hP hD hS hl
    exact wb_X1_readClauses_57 a_this a_rows a_ofClauses a_p1 a_p1_cells u_p1_count_ u_p1_lettersOfA_ u_p1_lettersOfB_ p1_clauses_ p1_cells_ hA hK hZ M res hR ofClauses_  _ ih rows_ x2_ hf hP hD hS hl
set_option maxHeartbeats 4000000 in
set_option maxRecDepth 100000 in
theorem wb_X1_readClauses_12 {p : Program} {l : Launch} {e : Env} {s : State} {m : MethodId} {args : Array Value} {below : List Frame} {meth : Method} {c : Code} {Q : State → Prop} {A : Nat → Prop} {G : va_G} {cI cJ cZ cO : ClassId} {tS : Nat} (a_this : Nat) (a_rows : Nat) (a_ofClauses : Nat) (a_p1 : Nat) (a_p1_cells : Nat) (u_p1_count_ : Value) (u_p1_lettersOfA_ : Value) (u_p1_lettersOfB_ : Value) (p1_clauses_ : Int32) (p1_cells_ : (Nat → Int32)) (hA : ∀ q : Nat, s.heap.size ≤ q → A q) (hK : va_K G vwCl (xTY cI cJ cZ cO) s) (hZ : xST tS A s) (M : CallFix p m c cX1_readClauses 4 s args wsX1_readClauses RX1) (res : (Nat → Int64) × (Nat → Int64)) (hR : RT_X1_readClauses p l e s m args below meth c Q A G cI cJ cZ cO a_this a_rows a_ofClauses a_p1 a_p1_cells u_p1_count_ u_p1_lettersOfA_ u_p1_lettersOfB_ p1_clauses_ p1_cells_ res) (rows_ : (Nat → Int64)) (x2_ : Int32) (k2 : ((Nat → Int64) × Int32) → Option ((Nat → Int64) × (Nat → Int64))) (hk2 : ∀ (ofClauses_ : (Nat → Int64)) (x2_ : Int32), k2 (ofClauses_, x2_) = some res → ∀ {H : Heap} {locs : List Loc} {ls : Array Slot}, va_P G vwCl [(a_this, .inr (1, [.ref a_rows, .ref a_ofClauses])), (a_rows, .inl (cJ, 44, .inr (.inl rows_))), (a_ofClauses, .inl (cJ, 40, .inr (.inl ofClauses_))), (a_p1, .inr (5, [.ref a_p1_cells, .int p1_clauses_, u_p1_count_, u_p1_lettersOfA_, u_p1_lettersOfB_])), (a_p1_cells, .inl (cI, 320, .inl p1_cells_))] H → va_D A [(a_this, .inr (1, [.ref a_rows, .ref a_ofClauses])), (a_rows, .inl (cJ, 44, .inr (.inl rows_))), (a_ofClauses, .inl (cJ, 40, .inr (.inl ofClauses_))), (a_p1, .inr (5, [.ref a_p1_cells, .int p1_clauses_, u_p1_count_, u_p1_lettersOfA_, u_p1_lettersOfB_])), (a_p1_cells, .inl (cI, 320, .inl p1_cells_))] → va_S A s.heap H locs → lv_has ls 4 [(0, .ref a_this), (1, .ref a_p1), (2, .int x2_)] → W p l e ({ frames := 2, cells := 0, slots := 0, locals := 46 } : Room) s m args below meth c H locs 0 0 Q (F0 m 2 ls [])) (k12 : ((Nat → Int64) × Int32) → Option ((Nat → Int64) × (Nat → Int64))) (hk12 : ∀ (ofClauses_ : (Nat → Int64)) (x3_ : Int32), k12 (ofClauses_, x3_) = some res → ∀ {H : Heap} {locs : List Loc} {ls : Array Slot}, va_P G vwCl [(a_this, .inr (1, [.ref a_rows, .ref a_ofClauses])), (a_rows, .inl (cJ, 44, .inr (.inl rows_))), (a_ofClauses, .inl (cJ, 40, .inr (.inl ofClauses_))), (a_p1, .inr (5, [.ref a_p1_cells, .int p1_clauses_, u_p1_count_, u_p1_lettersOfA_, u_p1_lettersOfB_])), (a_p1_cells, .inl (cI, 320, .inl p1_cells_))] H → va_D A [(a_this, .inr (1, [.ref a_rows, .ref a_ofClauses])), (a_rows, .inl (cJ, 44, .inr (.inl rows_))), (a_ofClauses, .inl (cJ, 40, .inr (.inl ofClauses_))), (a_p1, .inr (5, [.ref a_p1_cells, .int p1_clauses_, u_p1_count_, u_p1_lettersOfA_, u_p1_lettersOfB_])), (a_p1_cells, .inl (cI, 320, .inl p1_cells_))] → va_S A s.heap H locs → lv_has ls 4 [(0, .ref a_this), (1, .ref a_p1), (2, .int x2_), (3, .int x3_)] → W p l e ({ frames := 2, cells := 0, slots := 0, locals := 46 } : Room) s m args below meth c H locs 0 0 Q (F0 m 12 ls [])) (ofClauses_ : (Nat → Int64)) (x3_ : Int32) (hf : b_X1_readClauses_12 p1_cells_ x2_ k2 k12 ofClauses_ x3_ = some res) {H : Heap} {locs : List Loc} {ls : Array Slot} (hP : va_P G vwCl [(a_this, .inr (1, [.ref a_rows, .ref a_ofClauses])), (a_rows, .inl (cJ, 44, .inr (.inl rows_))), (a_ofClauses, .inl (cJ, 40, .inr (.inl ofClauses_))), (a_p1, .inr (5, [.ref a_p1_cells, .int p1_clauses_, u_p1_count_, u_p1_lettersOfA_, u_p1_lettersOfB_])), (a_p1_cells, .inl (cI, 320, .inl p1_cells_))] H) (hD : va_D A [(a_this, .inr (1, [.ref a_rows, .ref a_ofClauses])), (a_rows, .inl (cJ, 44, .inr (.inl rows_))), (a_ofClauses, .inl (cJ, 40, .inr (.inl ofClauses_))), (a_p1, .inr (5, [.ref a_p1_cells, .int p1_clauses_, u_p1_count_, u_p1_lettersOfA_, u_p1_lettersOfB_])), (a_p1_cells, .inl (cI, 320, .inl p1_cells_))]) (hS : va_S A s.heap H locs) (hl : lv_has ls 4 [(0, .ref a_this), (1, .ref a_p1), (2, .int x2_), (3, .int x3_)]) : W p l e ({ frames := 2, cells := 0, slots := 0, locals := 46 } : Room) s m args below meth c H locs 0 0 Q (F0 m 12 ls []) := by
  obtain ⟨hx, hb, hml, hown, hts⟩ := id M
  unfold b_X1_readClauses_12 at hf
  refine lv_iload_n hx hb dX1_readClauses_12 rfl (lv_at hl 3 rfl) ?_
  refine lv_iconst (v := (4 : Int32)) hx hb dX1_readClauses_13 (by decide) ?_
  refine lv_icmp_ge (tgt := 49) hx hb dX1_readClauses_14 (by decide) (fun hc1 => ?_) (fun hc1 => ?_)
  · have hf := oI_t hc1 hf
    obtain ⟨x2_2, ex2_2, hf⟩ := oL_e hf
    refine lv_iinc (v := x2_2) (lv' := [(2, .int x2_2), (0, .ref a_this), (1, .ref a_p1), (3, .int x3_)]) hx hb dX1_readClauses_49 hl (k := 2) rfl (by rw [← ex2_2]; rfl) (by decide) rfl (fun ls hl => ?_)
    refine lv_goto (tgt := 2) hx hb dX1_readClauses_52 (by decide) ?_
    exact hk2 _ _ hf hP hD hS (lv_sub hl [1, 2, 0] rfl)
  · have hf := oI_f hc1 hf
    refine lv_aload_n hx hb dX1_readClauses_17 rfl (lv_at hl 0 rfl) ?_
    refine xget M (C := RX1) (T := TX1) (N := 2) (ci := 1) (v := .ref a_ofClauses) uw_X1_readClauses_X1 hK hP 0 rfl rfl 1 (by decide) fl_X1_readClauses_17 rfl rfl dX1_readClauses_18 ?_
    refine lv_iload_n hx hb dX1_readClauses_21 rfl (lv_at hl 2 rfl) ?_
    refine lv_iconst (v := (4 : Int32)) hx hb dX1_readClauses_22 (by decide) ?_
    refine lv_imul hx hb dX1_readClauses_23 ?_
    refine lv_iload_n hx hb dX1_readClauses_24 rfl (lv_at hl 3 rfl) ?_
    refine lv_iadd hx hb dX1_readClauses_25 ?_
    refine lv_aload_n hx hb dX1_readClauses_26 rfl (lv_at hl 1 rfl) ?_
    refine lv_iload_n hx hb dX1_readClauses_27 rfl (lv_at hl 2 rfl) ?_
    refine lv_iconst (v := (0 : Int32)) hx hb dX1_readClauses_28 (by decide) ?_
    obtain ⟨r3, hq4, hf⟩ := oB1_e hf
    refine xci (wr := [(a_this, .inr (1, [.ref a_rows, .ref a_ofClauses])), (a_rows, .inl (cJ, 44, .inr (.inl rows_))), (a_ofClauses, .inl (cJ, 40, .inr (.inl ofClauses_)))]) (ws' := fun _ => [(a_this, .inr (1, [.ref a_rows, .ref a_ofClauses])), (a_rows, .inl (cJ, 44, .inr (.inl rows_))), (a_ofClauses, .inl (cJ, 40, .inr (.inl ofClauses_))), (a_p1, .inr (5, [.ref a_p1_cells, .int p1_clauses_, u_p1_count_, u_p1_lettersOfA_, u_p1_lettersOfB_])), (a_p1_cells, .inl (cI, 320, .inl p1_cells_))]) hA hP hD hS (xrV (As := [.int x2_, .int (0 : Int32)]) (rest := [.int ((x2_ * (4 : Int32)) + x3_), .ref a_ofClauses]) M hA hK hZ hP hD hS (c_X5_cell l G cI cJ cZ cO tS H.size a_p1 a_p1_cells (.int p1_clauses_) (u_p1_count_) (u_p1_lettersOfA_) (u_p1_lettersOfB_) p1_cells_ x2_ (0 : Int32) r3 hq4) (cwV 2 hts gX1_readClauses_X5_cell rfl rfl rfl hd_X5_cell ⟨Nat.le_of_ble_eq_true rfl, Nat.le_of_ble_eq_true rfl⟩) [3, 4] rfl rfl 3 rfl rfl rfl hl.1 rfl (Nat.le_of_ble_eq_true rfl) dX1_readClauses_29 ⟨Nat.le_of_ble_eq_true rfl, Nat.le_of_ble_eq_true rfl⟩) [3, 4] [0, 1, 2] [0, 1, 2, 3, 4] rfl rfl rfl rfl (fun _ => rfl) rfl (fun _ H locs hP hD hS => ?_)
    refine lv_aload_n hx hb dX1_readClauses_32 rfl (lv_at hl 1 rfl) ?_
    refine lv_iload_n hx hb dX1_readClauses_33 rfl (lv_at hl 2 rfl) ?_
    refine lv_iconst (v := (1 : Int32)) hx hb dX1_readClauses_34 (by decide) ?_
    obtain ⟨r5, hq6, hf⟩ := oB1_e hf
    refine xci (wr := [(a_this, .inr (1, [.ref a_rows, .ref a_ofClauses])), (a_rows, .inl (cJ, 44, .inr (.inl rows_))), (a_ofClauses, .inl (cJ, 40, .inr (.inl ofClauses_)))]) (ws' := fun _ => [(a_this, .inr (1, [.ref a_rows, .ref a_ofClauses])), (a_rows, .inl (cJ, 44, .inr (.inl rows_))), (a_ofClauses, .inl (cJ, 40, .inr (.inl ofClauses_))), (a_p1, .inr (5, [.ref a_p1_cells, .int p1_clauses_, u_p1_count_, u_p1_lettersOfA_, u_p1_lettersOfB_])), (a_p1_cells, .inl (cI, 320, .inl p1_cells_))]) hA hP hD hS (xrV (As := [.int x2_, .int (1 : Int32)]) (rest := [.int r3, .int ((x2_ * (4 : Int32)) + x3_), .ref a_ofClauses]) M hA hK hZ hP hD hS (c_X5_cell l G cI cJ cZ cO tS H.size a_p1 a_p1_cells (.int p1_clauses_) (u_p1_count_) (u_p1_lettersOfA_) (u_p1_lettersOfB_) p1_cells_ x2_ (1 : Int32) r5 hq6) (cwV 2 hts gX1_readClauses_X5_cell rfl rfl rfl hd_X5_cell ⟨Nat.le_of_ble_eq_true rfl, Nat.le_of_ble_eq_true rfl⟩) [3, 4] rfl rfl 3 rfl rfl rfl hl.1 rfl (Nat.le_of_ble_eq_true rfl) dX1_readClauses_35 ⟨Nat.le_of_ble_eq_true rfl, Nat.le_of_ble_eq_true rfl⟩) [3, 4] [0, 1, 2] [0, 1, 2, 3, 4] rfl rfl rfl rfl (fun _ => rfl) rfl (fun _ H locs hP hD hS => ?_)
    refine lv_iload_n hx hb dX1_readClauses_38 rfl (lv_at hl 3 rfl) ?_
    obtain ⟨r7, hq8, hf⟩ := oB1_e hf
    refine xcl (wr := [(a_this, .inr (1, [.ref a_rows, .ref a_ofClauses])), (a_rows, .inl (cJ, 44, .inr (.inl rows_))), (a_ofClauses, .inl (cJ, 40, .inr (.inl ofClauses_))), (a_p1, .inr (5, [.ref a_p1_cells, .int p1_clauses_, u_p1_count_, u_p1_lettersOfA_, u_p1_lettersOfB_])), (a_p1_cells, .inl (cI, 320, .inl p1_cells_))]) (ws' := fun _ => [(a_this, .inr (1, [.ref a_rows, .ref a_ofClauses])), (a_rows, .inl (cJ, 44, .inr (.inl rows_))), (a_ofClauses, .inl (cJ, 40, .inr (.inl ofClauses_))), (a_p1, .inr (5, [.ref a_p1_cells, .int p1_clauses_, u_p1_count_, u_p1_lettersOfA_, u_p1_lettersOfB_])), (a_p1_cells, .inl (cI, 320, .inl p1_cells_))]) hA hP hD hS (xrS (As := [.int r3, .int r5, .int x3_]) (rest := [.int ((x2_ * (4 : Int32)) + x3_), .ref a_ofClauses]) M hA hK hZ hP hD hS (c_X8_whereClauseHolds l G cI cJ cZ cO tS H.size r3 r5 x3_ r7 hq8) (va_cwS 3 hts gX1_readClauses_X8_whereClauseHolds rfl rfl rfl hd_X8_whereClauseHolds ⟨Nat.le_of_ble_eq_true rfl, Nat.le_of_ble_eq_true rfl⟩) [] rfl rfl rfl hl.1 rfl (Nat.le_of_ble_eq_true rfl) dX1_readClauses_39 ⟨Nat.le_of_ble_eq_true rfl, Nat.le_of_ble_eq_true rfl⟩) [] [0, 1, 2, 3, 4] [0, 1, 2, 3, 4] rfl rfl rfl rfl (fun _ => rfl) rfl (fun _ H locs hP hD hS => ?_)
    obtain ⟨j9, hj9, hij9, hf⟩ := oA_e hf
    obtain ⟨ofClauses_10, eofClauses_10, hf⟩ := oL_e hf
    refine xlast M hK hP hD hS 2 1 rfl rfl hj9 hij9 eofClauses_10 [(a_this, .inr (1, [.ref a_rows, .ref a_ofClauses])), (a_rows, .inl (cJ, 44, .inr (.inl rows_))), (a_ofClauses, .inl (cJ, 40, .inr (.inl ofClauses_10))), (a_p1, .inr (5, [.ref a_p1_cells, .int p1_clauses_, u_p1_count_, u_p1_lettersOfA_, u_p1_lettersOfB_])), (a_p1_cells, .inl (cI, 320, .inl p1_cells_))] rfl dX1_readClauses_42 (fun H locs hP hD hS => ?_)
    obtain ⟨x3_11, ex3_11, hf⟩ := oL_e hf
    refine lv_iinc (v := x3_11) (lv' := [(3, .int x3_11), (0, .ref a_this), (1, .ref a_p1), (2, .int x2_)]) hx hb dX1_readClauses_43 hl (k := 3) rfl (by rw [← ex3_11]; rfl) (by decide) rfl (fun ls hl => ?_)
    refine lv_goto (tgt := 12) hx hb dX1_readClauses_46 (by decide) ?_
    exact hk12 _ _ hf hP hD hS (lv_sub hl [1, 2, 3, 0] rfl)
set_option maxHeartbeats 4000000 in
set_option maxRecDepth 100000 in
theorem wl_X1_readClauses_12 {p : Program} {l : Launch} {e : Env} {s : State} {m : MethodId} {args : Array Value} {below : List Frame} {meth : Method} {c : Code} {Q : State → Prop} {A : Nat → Prop} {G : va_G} {cI cJ cZ cO : ClassId} {tS : Nat} (a_this : Nat) (a_rows : Nat) (a_ofClauses : Nat) (a_p1 : Nat) (a_p1_cells : Nat) (u_p1_count_ : Value) (u_p1_lettersOfA_ : Value) (u_p1_lettersOfB_ : Value) (p1_clauses_ : Int32) (p1_cells_ : (Nat → Int32)) (hA : ∀ q : Nat, s.heap.size ≤ q → A q) (hK : va_K G vwCl (xTY cI cJ cZ cO) s) (hZ : xST tS A s) (M : CallFix p m c cX1_readClauses 4 s args wsX1_readClauses RX1) (res : (Nat → Int64) × (Nat → Int64)) (hR : RT_X1_readClauses p l e s m args below meth c Q A G cI cJ cZ cO a_this a_rows a_ofClauses a_p1 a_p1_cells u_p1_count_ u_p1_lettersOfA_ u_p1_lettersOfB_ p1_clauses_ p1_cells_ res) (rows_ : (Nat → Int64)) (x2_ : Int32) (k2 : ((Nat → Int64) × Int32) → Option ((Nat → Int64) × (Nat → Int64))) (hk2 : ∀ (ofClauses_ : (Nat → Int64)) (x2_ : Int32), k2 (ofClauses_, x2_) = some res → ∀ {H : Heap} {locs : List Loc} {ls : Array Slot}, va_P G vwCl [(a_this, .inr (1, [.ref a_rows, .ref a_ofClauses])), (a_rows, .inl (cJ, 44, .inr (.inl rows_))), (a_ofClauses, .inl (cJ, 40, .inr (.inl ofClauses_))), (a_p1, .inr (5, [.ref a_p1_cells, .int p1_clauses_, u_p1_count_, u_p1_lettersOfA_, u_p1_lettersOfB_])), (a_p1_cells, .inl (cI, 320, .inl p1_cells_))] H → va_D A [(a_this, .inr (1, [.ref a_rows, .ref a_ofClauses])), (a_rows, .inl (cJ, 44, .inr (.inl rows_))), (a_ofClauses, .inl (cJ, 40, .inr (.inl ofClauses_))), (a_p1, .inr (5, [.ref a_p1_cells, .int p1_clauses_, u_p1_count_, u_p1_lettersOfA_, u_p1_lettersOfB_])), (a_p1_cells, .inl (cI, 320, .inl p1_cells_))] → va_S A s.heap H locs → lv_has ls 4 [(0, .ref a_this), (1, .ref a_p1), (2, .int x2_)] → W p l e ({ frames := 2, cells := 0, slots := 0, locals := 46 } : Room) s m args below meth c H locs 0 0 Q (F0 m 2 ls [])) (n : Nat) : ∀ (ofClauses_ : (Nat → Int64)) (x3_ : Int32), oF (fun k z => b_X1_readClauses_12 p1_cells_ x2_ k2 k z.1 z.2) n (ofClauses_, x3_) = some res → ∀ {H : Heap} {locs : List Loc} {ls : Array Slot}, va_P G vwCl [(a_this, .inr (1, [.ref a_rows, .ref a_ofClauses])), (a_rows, .inl (cJ, 44, .inr (.inl rows_))), (a_ofClauses, .inl (cJ, 40, .inr (.inl ofClauses_))), (a_p1, .inr (5, [.ref a_p1_cells, .int p1_clauses_, u_p1_count_, u_p1_lettersOfA_, u_p1_lettersOfB_])), (a_p1_cells, .inl (cI, 320, .inl p1_cells_))] H → va_D A [(a_this, .inr (1, [.ref a_rows, .ref a_ofClauses])), (a_rows, .inl (cJ, 44, .inr (.inl rows_))), (a_ofClauses, .inl (cJ, 40, .inr (.inl ofClauses_))), (a_p1, .inr (5, [.ref a_p1_cells, .int p1_clauses_, u_p1_count_, u_p1_lettersOfA_, u_p1_lettersOfB_])), (a_p1_cells, .inl (cI, 320, .inl p1_cells_))] → va_S A s.heap H locs → lv_has ls 4 [(0, .ref a_this), (1, .ref a_p1), (2, .int x2_), (3, .int x3_)] → W p l e ({ frames := 2, cells := 0, slots := 0, locals := 46 } : Room) s m args below meth c H locs 0 0 Q (F0 m 12 ls []) := by
  induction n with
  | zero => intro ofClauses_ x3_ hf; cases hf
  | succ n ih =>
    intro ofClauses_ x3_ hf H locs ls hP hD hS hl
    exact wb_X1_readClauses_12 a_this a_rows a_ofClauses a_p1 a_p1_cells u_p1_count_ u_p1_lettersOfA_ u_p1_lettersOfB_ p1_clauses_ p1_cells_ hA hK hZ M res hR rows_ x2_ k2 hk2 _ ih ofClauses_ x3_ hf hP hD hS hl
set_option maxHeartbeats 4000000 in
set_option maxRecDepth 100000 in
theorem wb_X1_readClauses_2 {p : Program} {l : Launch} {e : Env} {s : State} {m : MethodId} {args : Array Value} {below : List Frame} {meth : Method} {c : Code} {Q : State → Prop} {A : Nat → Prop} {G : va_G} {cI cJ cZ cO : ClassId} {tS : Nat} (a_this : Nat) (a_rows : Nat) (a_ofClauses : Nat) (a_p1 : Nat) (a_p1_cells : Nat) (u_p1_count_ : Value) (u_p1_lettersOfA_ : Value) (u_p1_lettersOfB_ : Value) (p1_clauses_ : Int32) (p1_cells_ : (Nat → Int32)) (hA : ∀ q : Nat, s.heap.size ≤ q → A q) (hK : va_K G vwCl (xTY cI cJ cZ cO) s) (hZ : xST tS A s) (M : CallFix p m c cX1_readClauses 4 s args wsX1_readClauses RX1) (res : (Nat → Int64) × (Nat → Int64)) (hR : RT_X1_readClauses p l e s m args below meth c Q A G cI cJ cZ cO a_this a_rows a_ofClauses a_p1 a_p1_cells u_p1_count_ u_p1_lettersOfA_ u_p1_lettersOfB_ p1_clauses_ p1_cells_ res) (rows_ : (Nat → Int64))  (k2 : ((Nat → Int64) × Int32) → Option ((Nat → Int64) × (Nat → Int64))) (hk2 : ∀ (ofClauses_ : (Nat → Int64)) (x2_ : Int32), k2 (ofClauses_, x2_) = some res → ∀ {H : Heap} {locs : List Loc} {ls : Array Slot}, va_P G vwCl [(a_this, .inr (1, [.ref a_rows, .ref a_ofClauses])), (a_rows, .inl (cJ, 44, .inr (.inl rows_))), (a_ofClauses, .inl (cJ, 40, .inr (.inl ofClauses_))), (a_p1, .inr (5, [.ref a_p1_cells, .int p1_clauses_, u_p1_count_, u_p1_lettersOfA_, u_p1_lettersOfB_])), (a_p1_cells, .inl (cI, 320, .inl p1_cells_))] H → va_D A [(a_this, .inr (1, [.ref a_rows, .ref a_ofClauses])), (a_rows, .inl (cJ, 44, .inr (.inl rows_))), (a_ofClauses, .inl (cJ, 40, .inr (.inl ofClauses_))), (a_p1, .inr (5, [.ref a_p1_cells, .int p1_clauses_, u_p1_count_, u_p1_lettersOfA_, u_p1_lettersOfB_])), (a_p1_cells, .inl (cI, 320, .inl p1_cells_))] → va_S A s.heap H locs → lv_has ls 4 [(0, .ref a_this), (1, .ref a_p1), (2, .int x2_)] → W p l e ({ frames := 2, cells := 0, slots := 0, locals := 46 } : Room) s m args below meth c H locs 0 0 Q (F0 m 2 ls [])) (ofClauses_ : (Nat → Int64)) (x2_ : Int32) (hf : b_X1_readClauses_2 rows_ p1_clauses_ p1_cells_ k2 ofClauses_ x2_ = some res) {H : Heap} {locs : List Loc} {ls : Array Slot} (hP : va_P G vwCl [(a_this, .inr (1, [.ref a_rows, .ref a_ofClauses])), (a_rows, .inl (cJ, 44, .inr (.inl rows_))), (a_ofClauses, .inl (cJ, 40, .inr (.inl ofClauses_))), (a_p1, .inr (5, [.ref a_p1_cells, .int p1_clauses_, u_p1_count_, u_p1_lettersOfA_, u_p1_lettersOfB_])), (a_p1_cells, .inl (cI, 320, .inl p1_cells_))] H) (hD : va_D A [(a_this, .inr (1, [.ref a_rows, .ref a_ofClauses])), (a_rows, .inl (cJ, 44, .inr (.inl rows_))), (a_ofClauses, .inl (cJ, 40, .inr (.inl ofClauses_))), (a_p1, .inr (5, [.ref a_p1_cells, .int p1_clauses_, u_p1_count_, u_p1_lettersOfA_, u_p1_lettersOfB_])), (a_p1_cells, .inl (cI, 320, .inl p1_cells_))]) (hS : va_S A s.heap H locs) (hl : lv_has ls 4 [(0, .ref a_this), (1, .ref a_p1), (2, .int x2_)]) : W p l e ({ frames := 2, cells := 0, slots := 0, locals := 46 } : Room) s m args below meth c H locs 0 0 Q (F0 m 2 ls []) := by
  obtain ⟨hx, hb, hml, hown, hts⟩ := id M
  unfold b_X1_readClauses_2 at hf
  refine lv_iload_n hx hb dX1_readClauses_2 rfl (lv_at hl 2 rfl) ?_
  refine lv_aload_n hx hb dX1_readClauses_3 rfl (lv_at hl 1 rfl) ?_
  refine xget M (C := RX5) (T := TX5) (N := 5) (ci := 5) (v := .int p1_clauses_) uw_X1_readClauses_X5 hK hP 3 rfl rfl 1 (by decide) fl_X1_readClauses_22 rfl rfl dX1_readClauses_4 ?_
  refine lv_icmp_ge (tgt := 55) hx hb dX1_readClauses_7 (by decide) (fun hc1 => ?_) (fun hc1 => ?_)
  · have hf := oI_t hc1 hf
    refine lv_iconst (v := (0 : Int32)) hx hb dX1_readClauses_55 (by decide) ?_
    refine lv_istore_n (lv' := [(2, .int (0 : Int32)), (0, .ref a_this), (1, .ref a_p1)]) hx hb dX1_readClauses_56 rfl hl (by decide) rfl (fun ls hl => ?_)
    exact wl_X1_readClauses_57 a_this a_rows a_ofClauses a_p1 a_p1_cells u_p1_count_ u_p1_lettersOfA_ u_p1_lettersOfB_ p1_clauses_ p1_cells_ hA hK hZ M res hR ofClauses_  xN rows_ (0 : Int32) hf hP hD hS (lv_sub hl [1, 0] rfl)
  · have hf := oI_f hc1 hf
    refine lv_iconst (v := (0 : Int32)) hx hb dX1_readClauses_10 (by decide) ?_
    refine lv_istore_n (lv' := [(3, .int (0 : Int32)), (0, .ref a_this), (1, .ref a_p1), (2, .int x2_)]) hx hb dX1_readClauses_11 rfl hl (by decide) rfl (fun ls hl => ?_)
    exact wl_X1_readClauses_12 a_this a_rows a_ofClauses a_p1 a_p1_cells u_p1_count_ u_p1_lettersOfA_ u_p1_lettersOfB_ p1_clauses_ p1_cells_ hA hK hZ M res hR rows_ x2_ k2 hk2 xN ofClauses_ (0 : Int32) hf hP hD hS (lv_sub hl [1, 2, 3, 0] rfl)
set_option maxHeartbeats 4000000 in
set_option maxRecDepth 100000 in
theorem wl_X1_readClauses_2 {p : Program} {l : Launch} {e : Env} {s : State} {m : MethodId} {args : Array Value} {below : List Frame} {meth : Method} {c : Code} {Q : State → Prop} {A : Nat → Prop} {G : va_G} {cI cJ cZ cO : ClassId} {tS : Nat} (a_this : Nat) (a_rows : Nat) (a_ofClauses : Nat) (a_p1 : Nat) (a_p1_cells : Nat) (u_p1_count_ : Value) (u_p1_lettersOfA_ : Value) (u_p1_lettersOfB_ : Value) (p1_clauses_ : Int32) (p1_cells_ : (Nat → Int32)) (hA : ∀ q : Nat, s.heap.size ≤ q → A q) (hK : va_K G vwCl (xTY cI cJ cZ cO) s) (hZ : xST tS A s) (M : CallFix p m c cX1_readClauses 4 s args wsX1_readClauses RX1) (res : (Nat → Int64) × (Nat → Int64)) (hR : RT_X1_readClauses p l e s m args below meth c Q A G cI cJ cZ cO a_this a_rows a_ofClauses a_p1 a_p1_cells u_p1_count_ u_p1_lettersOfA_ u_p1_lettersOfB_ p1_clauses_ p1_cells_ res) (rows_ : (Nat → Int64))  (n : Nat) : ∀ (ofClauses_ : (Nat → Int64)) (x2_ : Int32), oF (fun k z => b_X1_readClauses_2 rows_ p1_clauses_ p1_cells_ k z.1 z.2) n (ofClauses_, x2_) = some res → ∀ {H : Heap} {locs : List Loc} {ls : Array Slot}, va_P G vwCl [(a_this, .inr (1, [.ref a_rows, .ref a_ofClauses])), (a_rows, .inl (cJ, 44, .inr (.inl rows_))), (a_ofClauses, .inl (cJ, 40, .inr (.inl ofClauses_))), (a_p1, .inr (5, [.ref a_p1_cells, .int p1_clauses_, u_p1_count_, u_p1_lettersOfA_, u_p1_lettersOfB_])), (a_p1_cells, .inl (cI, 320, .inl p1_cells_))] H → va_D A [(a_this, .inr (1, [.ref a_rows, .ref a_ofClauses])), (a_rows, .inl (cJ, 44, .inr (.inl rows_))), (a_ofClauses, .inl (cJ, 40, .inr (.inl ofClauses_))), (a_p1, .inr (5, [.ref a_p1_cells, .int p1_clauses_, u_p1_count_, u_p1_lettersOfA_, u_p1_lettersOfB_])), (a_p1_cells, .inl (cI, 320, .inl p1_cells_))] → va_S A s.heap H locs → lv_has ls 4 [(0, .ref a_this), (1, .ref a_p1), (2, .int x2_)] → W p l e ({ frames := 2, cells := 0, slots := 0, locals := 46 } : Room) s m args below meth c H locs 0 0 Q (F0 m 2 ls []) := by
  induction n with
  | zero => intro ofClauses_ x2_ hf; cases hf
  | succ n ih =>
    intro ofClauses_ x2_ hf H locs ls hP hD hS hl
    exact wb_X1_readClauses_2 a_this a_rows a_ofClauses a_p1 a_p1_cells u_p1_count_ u_p1_lettersOfA_ u_p1_lettersOfB_ p1_clauses_ p1_cells_ hA hK hZ M res hR rows_  _ ih ofClauses_ x2_ hf hP hD hS hl
set_option maxHeartbeats 4000000 in
set_option maxRecDepth 100000 in
theorem w_X1_readClauses_0 {p : Program} {l : Launch} {e : Env} {s : State} {m : MethodId} {args : Array Value} {below : List Frame} {meth : Method} {c : Code} {Q : State → Prop} {A : Nat → Prop} {G : va_G} {cI cJ cZ cO : ClassId} {tS : Nat} (a_this : Nat) (a_rows : Nat) (a_ofClauses : Nat) (a_p1 : Nat) (a_p1_cells : Nat) (u_p1_count_ : Value) (u_p1_lettersOfA_ : Value) (u_p1_lettersOfB_ : Value) (p1_clauses_ : Int32) (p1_cells_ : (Nat → Int32)) (hA : ∀ q : Nat, s.heap.size ≤ q → A q) (hK : va_K G vwCl (xTY cI cJ cZ cO) s) (hZ : xST tS A s) (M : CallFix p m c cX1_readClauses 4 s args wsX1_readClauses RX1) (res : (Nat → Int64) × (Nat → Int64)) (hR : RT_X1_readClauses p l e s m args below meth c Q A G cI cJ cZ cO a_this a_rows a_ofClauses a_p1 a_p1_cells u_p1_count_ u_p1_lettersOfA_ u_p1_lettersOfB_ p1_clauses_ p1_cells_ res) (rows_ : (Nat → Int64)) (ofClauses_ : (Nat → Int64))  (hf : f_X1_readClauses rows_ ofClauses_ p1_clauses_ p1_cells_ = some res) {H : Heap} {locs : List Loc} {ls : Array Slot} (hP : va_P G vwCl [(a_this, .inr (1, [.ref a_rows, .ref a_ofClauses])), (a_rows, .inl (cJ, 44, .inr (.inl rows_))), (a_ofClauses, .inl (cJ, 40, .inr (.inl ofClauses_))), (a_p1, .inr (5, [.ref a_p1_cells, .int p1_clauses_, u_p1_count_, u_p1_lettersOfA_, u_p1_lettersOfB_])), (a_p1_cells, .inl (cI, 320, .inl p1_cells_))] H) (hD : va_D A [(a_this, .inr (1, [.ref a_rows, .ref a_ofClauses])), (a_rows, .inl (cJ, 44, .inr (.inl rows_))), (a_ofClauses, .inl (cJ, 40, .inr (.inl ofClauses_))), (a_p1, .inr (5, [.ref a_p1_cells, .int p1_clauses_, u_p1_count_, u_p1_lettersOfA_, u_p1_lettersOfB_])), (a_p1_cells, .inl (cI, 320, .inl p1_cells_))]) (hS : va_S A s.heap H locs) (hl : lv_has ls 4 [(0, .ref a_this), (1, .ref a_p1)]) : W p l e ({ frames := 2, cells := 0, slots := 0, locals := 46 } : Room) s m args below meth c H locs 0 0 Q (F0 m 0 ls []) := by
  obtain ⟨hx, hb, hml, hown, hts⟩ := id M
  unfold f_X1_readClauses at hf
  refine lv_iconst (v := (0 : Int32)) hx hb dX1_readClauses_0 (by decide) ?_
  refine lv_istore_n (lv' := [(2, .int (0 : Int32)), (0, .ref a_this), (1, .ref a_p1)]) hx hb dX1_readClauses_1 rfl hl (by decide) rfl (fun ls hl => ?_)
  exact wl_X1_readClauses_2 a_this a_rows a_ofClauses a_p1 a_p1_cells u_p1_count_ u_p1_lettersOfA_ u_p1_lettersOfB_ p1_clauses_ p1_cells_ hA hK hZ M res hR rows_  xN ofClauses_ (0 : Int32) hf hP hD hS (lv_sub hl [1, 2, 0] rfl)
set_option maxHeartbeats 4000000 in
set_option maxRecDepth 100000 in
theorem c_X1_readClauses (l : Launch) (G : va_G) (cI cJ cZ cO : ClassId) (tS sz : Nat) (a_this : Nat) (a_rows : Nat) (a_ofClauses : Nat) (a_p1 : Nat) (a_p1_cells : Nat) (u_p1_count_ : Value) (u_p1_lettersOfA_ : Value) (u_p1_lettersOfB_ : Value) (p1_clauses_ : Int32) (p1_cells_ : (Nat → Int32)) (rows_ : (Nat → Int64)) (ofClauses_ : (Nat → Int64))  (o_rows_ : (Nat → Int64)) (o_ofClauses_ : (Nat → Int64)) (hf : f_X1_readClauses rows_ ofClauses_ p1_clauses_ p1_cells_ = some (o_rows_, o_ofClauses_)) : Met l yX1_readClauses wsX1_readClauses ({ frames := 2, cells := 0, slots := 0, locals := 46 } : Room) (xPre G (xTY cI cJ cZ cO) tS [(a_this, .inr (1, [.ref a_rows, .ref a_ofClauses])), (a_rows, .inl (cJ, 44, .inr (.inl rows_))), (a_ofClauses, .inl (cJ, 40, .inr (.inl ofClauses_))), (a_p1, .inr (5, [.ref a_p1_cells, .int p1_clauses_, u_p1_count_, u_p1_lettersOfA_, u_p1_lettersOfB_])), (a_p1_cells, .inl (cI, 320, .inl p1_cells_))] sz [.ref a_this, .ref a_p1]) (xQv G [(a_this, .inr (1, [.ref a_rows, .ref a_ofClauses])), (a_rows, .inl (cJ, 44, .inr (.inl rows_))), (a_ofClauses, .inl (cJ, 40, .inr (.inl ofClauses_))), (a_p1, .inr (5, [.ref a_p1_cells, .int p1_clauses_, u_p1_count_, u_p1_lettersOfA_, u_p1_lettersOfB_])), (a_p1_cells, .inl (cI, 320, .inl p1_cells_))] sz (fun _ : Unit => [(a_this, .inr (1, [.ref a_rows, .ref a_ofClauses])), (a_rows, .inl (cJ, 44, .inr (.inl o_rows_))), (a_ofClauses, .inl (cJ, 40, .inr (.inl o_ofClauses_))), (a_p1, .inr (5, [.ref a_p1_cells, .int p1_clauses_, u_p1_count_, u_p1_lettersOfA_, u_p1_lettersOfB_])), (a_p1_cells, .inl (cI, 320, .inl p1_cells_))])) 0 0 (va_A [(a_this, .inr (1, [.ref a_rows, .ref a_ofClauses])), (a_rows, .inl (cJ, 44, .inr (.inl rows_))), (a_ofClauses, .inl (cJ, 40, .inr (.inl ofClauses_))), (a_p1, .inr (5, [.ref a_p1_cells, .int p1_clauses_, u_p1_count_, u_p1_lettersOfA_, u_p1_lettersOfB_])), (a_p1_cells, .inl (cI, 320, .inl p1_cells_))] sz) := by
  refine xMet (cc := cX1_readClauses) (maxL := 4) (ret := none) (own := RX1) (by decide +kernel) rfl rfl (Nat.le_of_ble_eq_true rfl) rfl ?_
  intro p e s m below meth c ls M hr hlk hin hsz hA hK hZ hP hD hl
  refine w_X1_readClauses_0 a_this a_rows a_ofClauses a_p1 a_p1_cells u_p1_count_ u_p1_lettersOfA_ u_p1_lettersOfB_ p1_clauses_ p1_cells_ hA hK hZ M (o_rows_, o_ofClauses_) (fun o_rows_' o_ofClauses_' hres H locs ls pc hd hP hD hS => ?_) rows_ ofClauses_  hf hP hD va_S.rf hl
  cases hres
  exact xretv (W1 := fun _ : Unit => [(a_this, .inr (1, [.ref a_rows, .ref a_ofClauses])), (a_rows, .inl (cJ, 44, .inr (.inl o_rows_))), (a_ofClauses, .inl (cJ, 40, .inr (.inl o_ofClauses_))), (a_p1, .inr (5, [.ref a_p1_cells, .int p1_clauses_, u_p1_count_, u_p1_lettersOfA_, u_p1_lettersOfB_])), (a_p1_cells, .inl (cI, 320, .inl p1_cells_))]) M hr hlk () hP hD hS hd
/-! java/lang/Integer.numberOfTrailingZeros(I)I -/
theorem kc_J6_numberOfTrailingZeros_0f7a4_264 : Cond.constant RJ6 264 (65536) ∈ wsJ6_numberOfTrailingZeros_0f7a4 := by decide +kernel
theorem hd_J6_numberOfTrailingZeros_0f7a4 : yJ6_numberOfTrailingZeros_0f7a4.cls ≠ "java/lang/invoke/MethodHandle" ∧ yJ6_numberOfTrailingZeros_0f7a4.cls ≠ "java/lang/invoke/VarHandle" ∧ (parseMethodDescriptor yJ6_numberOfTrailingZeros_0f7a4.desc).map (fun d => d.parameters.length) = some 1 := by decide +kernel
def RT_J6_numberOfTrailingZeros_0f7a4 (p : Program) (l : Launch) (e : Env) (s : State) (m : MethodId) (args : Array Value) (below : List Frame) (meth : Method) (c : Code) (Q : State → Prop) (A : Nat → Prop) (G : va_G) (cI cJ cZ cO : ClassId)  (res : Int32) : Prop := ∀ (v_ : Int32), some v_ = some res → ∀ (H : Heap) (locs : List Loc) (ls : Array Slot) (pc : Nat), decode cJ6_numberOfTrailingZeros_0f7a4 pc = .ok (.ireturn, 1) → va_P G vwCl [] H → va_D A [] → va_S A s.heap H locs → W p l e ({ frames := 0, cells := 0, slots := 0, locals := 0 } : Room) s m args below meth c H locs 0 0 Q (F0 m pc ls [.int v_])
set_option maxHeartbeats 4000000 in
set_option maxRecDepth 100000 in
theorem w_J6_numberOfTrailingZeros_0f7a4_74 {p : Program} {l : Launch} {e : Env} {s : State} {m : MethodId} {args : Array Value} {below : List Frame} {meth : Method} {c : Code} {Q : State → Prop} {A : Nat → Prop} {G : va_G} {cI cJ cZ cO : ClassId} {tS : Nat}  (hA : ∀ q : Nat, s.heap.size ≤ q → A q) (hK : va_K G vwCl (xTY cI cJ cZ cO) s) (hZ : xST tS A s) (M : CallFix p m c cJ6_numberOfTrailingZeros_0f7a4 2 s args wsJ6_numberOfTrailingZeros_0f7a4 RJ6) (res : Int32) (hR : RT_J6_numberOfTrailingZeros_0f7a4 p l e s m args below meth c Q A G cI cJ cZ cO  res) (x0_ : Int32) (x1_ : Int32)  (hf : f_J6_numberOfTrailingZeros_0f7a4_74 x0_ x1_ = some res) {H : Heap} {locs : List Loc} {ls : Array Slot} (hP : va_P G vwCl [] H) (hD : va_D A []) (hS : va_S A s.heap H locs) (hl : lv_has ls 2 [(0, .int x0_), (1, .int x1_)]) : W p l e ({ frames := 0, cells := 0, slots := 0, locals := 0 } : Room) s m args below meth c H locs 0 0 Q (F0 m 74 ls []) := by
  obtain ⟨hx, hb, hml, hown, hts⟩ := id M
  unfold f_J6_numberOfTrailingZeros_0f7a4_74 at hf
  refine lv_iload_n hx hb dJ6_numberOfTrailingZeros_0f7a4_74 rfl (lv_at hl 1 rfl) ?_
  refine lv_iload_n hx hb dJ6_numberOfTrailingZeros_0f7a4_75 rfl (lv_at hl 0 rfl) ?_
  refine lv_iconst (v := (1 : Int32)) hx hb dJ6_numberOfTrailingZeros_0f7a4_76 (by decide) ?_
  refine lv_iushr (v := ((x0_.toUInt32 >>> ((1 : Int32).toUInt32 &&& Int32.toUInt32 31)).toInt32)) hx hb dJ6_numberOfTrailingZeros_0f7a4_77 rfl ?_
  refine lv_iadd hx hb dJ6_numberOfTrailingZeros_0f7a4_78 ?_
  exact hR _ hf _ _ _ _ dJ6_numberOfTrailingZeros_0f7a4_79 hP hD hS
set_option maxHeartbeats 4000000 in
set_option maxRecDepth 100000 in
theorem w_J6_numberOfTrailingZeros_0f7a4_62 {p : Program} {l : Launch} {e : Env} {s : State} {m : MethodId} {args : Array Value} {below : List Frame} {meth : Method} {c : Code} {Q : State → Prop} {A : Nat → Prop} {G : va_G} {cI cJ cZ cO : ClassId} {tS : Nat}  (hA : ∀ q : Nat, s.heap.size ≤ q → A q) (hK : va_K G vwCl (xTY cI cJ cZ cO) s) (hZ : xST tS A s) (M : CallFix p m c cJ6_numberOfTrailingZeros_0f7a4 2 s args wsJ6_numberOfTrailingZeros_0f7a4 RJ6) (res : Int32) (hR : RT_J6_numberOfTrailingZeros_0f7a4 p l e s m args below meth c Q A G cI cJ cZ cO  res) (x0_ : Int32) (x1_ : Int32)  (hf : f_J6_numberOfTrailingZeros_0f7a4_62 x0_ x1_ = some res) {H : Heap} {locs : List Loc} {ls : Array Slot} (hP : va_P G vwCl [] H) (hD : va_D A []) (hS : va_S A s.heap H locs) (hl : lv_has ls 2 [(0, .int x0_), (1, .int x1_)]) : W p l e ({ frames := 0, cells := 0, slots := 0, locals := 0 } : Room) s m args below meth c H locs 0 0 Q (F0 m 62 ls []) := by
  obtain ⟨hx, hb, hml, hown, hts⟩ := id M
  unfold f_J6_numberOfTrailingZeros_0f7a4_62 at hf
  refine lv_iload_n hx hb dJ6_numberOfTrailingZeros_0f7a4_62 rfl (lv_at hl 0 rfl) ?_
  refine lv_iconst (v := (4 : Int32)) hx hb dJ6_numberOfTrailingZeros_0f7a4_63 (by decide) ?_
  refine lv_icmp_le (tgt := 74) hx hb dJ6_numberOfTrailingZeros_0f7a4_64 (by decide) (fun hc1 => ?_) (fun hc1 => ?_)
  · have hf := oI_t hc1 hf
    exact w_J6_numberOfTrailingZeros_0f7a4_74  hA hK hZ M res hR x0_ x1_  hf hP hD hS (lv_sub hl [0, 1] rfl)
  · have hf := oI_f hc1 hf
    obtain ⟨x1_2, ex1_2, hf⟩ := oL_e hf
    refine lv_iinc (v := x1_2) (lv' := [(1, .int x1_2), (0, .int x0_)]) hx hb dJ6_numberOfTrailingZeros_0f7a4_67 hl (k := 1) rfl (by rw [← ex1_2]; rfl) (by decide) rfl (fun ls hl => ?_)
    refine lv_iload_n hx hb dJ6_numberOfTrailingZeros_0f7a4_70 rfl (lv_at hl 1 rfl) ?_
    refine lv_iconst (v := (2 : Int32)) hx hb dJ6_numberOfTrailingZeros_0f7a4_71 (by decide) ?_
    refine lv_iushr (v := ((x0_.toUInt32 >>> ((2 : Int32).toUInt32 &&& Int32.toUInt32 31)).toInt32)) hx hb dJ6_numberOfTrailingZeros_0f7a4_72 rfl ?_
    obtain ⟨x0_3, ex0_3, hf⟩ := oL_e hf
    refine xtopi ex0_3 ?_
    refine lv_istore_n (lv' := [(0, .int x0_3), (1, .int x1_2)]) hx hb dJ6_numberOfTrailingZeros_0f7a4_73 rfl hl (by decide) rfl (fun ls hl => ?_)
    exact w_J6_numberOfTrailingZeros_0f7a4_74  hA hK hZ M res hR x0_3 x1_2  hf hP hD hS (lv_sub hl [0, 1] rfl)
set_option maxHeartbeats 4000000 in
set_option maxRecDepth 100000 in
theorem w_J6_numberOfTrailingZeros_0f7a4_49 {p : Program} {l : Launch} {e : Env} {s : State} {m : MethodId} {args : Array Value} {below : List Frame} {meth : Method} {c : Code} {Q : State → Prop} {A : Nat → Prop} {G : va_G} {cI cJ cZ cO : ClassId} {tS : Nat}  (hA : ∀ q : Nat, s.heap.size ≤ q → A q) (hK : va_K G vwCl (xTY cI cJ cZ cO) s) (hZ : xST tS A s) (M : CallFix p m c cJ6_numberOfTrailingZeros_0f7a4 2 s args wsJ6_numberOfTrailingZeros_0f7a4 RJ6) (res : Int32) (hR : RT_J6_numberOfTrailingZeros_0f7a4 p l e s m args below meth c Q A G cI cJ cZ cO  res) (x0_ : Int32) (x1_ : Int32)  (hf : f_J6_numberOfTrailingZeros_0f7a4_49 x0_ x1_ = some res) {H : Heap} {locs : List Loc} {ls : Array Slot} (hP : va_P G vwCl [] H) (hD : va_D A []) (hS : va_S A s.heap H locs) (hl : lv_has ls 2 [(0, .int x0_), (1, .int x1_)]) : W p l e ({ frames := 0, cells := 0, slots := 0, locals := 0 } : Room) s m args below meth c H locs 0 0 Q (F0 m 49 ls []) := by
  obtain ⟨hx, hb, hml, hown, hts⟩ := id M
  unfold f_J6_numberOfTrailingZeros_0f7a4_49 at hf
  refine lv_iload_n hx hb dJ6_numberOfTrailingZeros_0f7a4_49 rfl (lv_at hl 0 rfl) ?_
  refine lv_bipush (v := (16 : Int32)) hx hb dJ6_numberOfTrailingZeros_0f7a4_50 (by decide) ?_
  refine lv_icmp_le (tgt := 62) hx hb dJ6_numberOfTrailingZeros_0f7a4_52 (by decide) (fun hc1 => ?_) (fun hc1 => ?_)
  · have hf := oI_t hc1 hf
    exact w_J6_numberOfTrailingZeros_0f7a4_62  hA hK hZ M res hR x0_ x1_  hf hP hD hS (lv_sub hl [0, 1] rfl)
  · have hf := oI_f hc1 hf
    obtain ⟨x1_2, ex1_2, hf⟩ := oL_e hf
    refine lv_iinc (v := x1_2) (lv' := [(1, .int x1_2), (0, .int x0_)]) hx hb dJ6_numberOfTrailingZeros_0f7a4_55 hl (k := 1) rfl (by rw [← ex1_2]; rfl) (by decide) rfl (fun ls hl => ?_)
    refine lv_iload_n hx hb dJ6_numberOfTrailingZeros_0f7a4_58 rfl (lv_at hl 1 rfl) ?_
    refine lv_iconst (v := (4 : Int32)) hx hb dJ6_numberOfTrailingZeros_0f7a4_59 (by decide) ?_
    refine lv_iushr (v := ((x0_.toUInt32 >>> ((4 : Int32).toUInt32 &&& Int32.toUInt32 31)).toInt32)) hx hb dJ6_numberOfTrailingZeros_0f7a4_60 rfl ?_
    obtain ⟨x0_3, ex0_3, hf⟩ := oL_e hf
    refine xtopi ex0_3 ?_
    refine lv_istore_n (lv' := [(0, .int x0_3), (1, .int x1_2)]) hx hb dJ6_numberOfTrailingZeros_0f7a4_61 rfl hl (by decide) rfl (fun ls hl => ?_)
    exact w_J6_numberOfTrailingZeros_0f7a4_62  hA hK hZ M res hR x0_3 x1_2  hf hP hD hS (lv_sub hl [0, 1] rfl)
set_option maxHeartbeats 4000000 in
set_option maxRecDepth 100000 in
theorem w_J6_numberOfTrailingZeros_0f7a4_34 {p : Program} {l : Launch} {e : Env} {s : State} {m : MethodId} {args : Array Value} {below : List Frame} {meth : Method} {c : Code} {Q : State → Prop} {A : Nat → Prop} {G : va_G} {cI cJ cZ cO : ClassId} {tS : Nat}  (hA : ∀ q : Nat, s.heap.size ≤ q → A q) (hK : va_K G vwCl (xTY cI cJ cZ cO) s) (hZ : xST tS A s) (M : CallFix p m c cJ6_numberOfTrailingZeros_0f7a4 2 s args wsJ6_numberOfTrailingZeros_0f7a4 RJ6) (res : Int32) (hR : RT_J6_numberOfTrailingZeros_0f7a4 p l e s m args below meth c Q A G cI cJ cZ cO  res) (x0_ : Int32) (x1_ : Int32)  (hf : f_J6_numberOfTrailingZeros_0f7a4_34 x0_ x1_ = some res) {H : Heap} {locs : List Loc} {ls : Array Slot} (hP : va_P G vwCl [] H) (hD : va_D A []) (hS : va_S A s.heap H locs) (hl : lv_has ls 2 [(0, .int x0_), (1, .int x1_)]) : W p l e ({ frames := 0, cells := 0, slots := 0, locals := 0 } : Room) s m args below meth c H locs 0 0 Q (F0 m 34 ls []) := by
  obtain ⟨hx, hb, hml, hown, hts⟩ := id M
  unfold f_J6_numberOfTrailingZeros_0f7a4_34 at hf
  refine lv_iload_n hx hb dJ6_numberOfTrailingZeros_0f7a4_34 rfl (lv_at hl 0 rfl) ?_
  refine lv_sipush (v := (256 : Int32)) hx hb dJ6_numberOfTrailingZeros_0f7a4_35 (by decide) ?_
  refine lv_icmp_le (tgt := 49) hx hb dJ6_numberOfTrailingZeros_0f7a4_38 (by decide) (fun hc1 => ?_) (fun hc1 => ?_)
  · have hf := oI_t hc1 hf
    exact w_J6_numberOfTrailingZeros_0f7a4_49  hA hK hZ M res hR x0_ x1_  hf hP hD hS (lv_sub hl [0, 1] rfl)
  · have hf := oI_f hc1 hf
    obtain ⟨x1_2, ex1_2, hf⟩ := oL_e hf
    refine lv_iinc (v := x1_2) (lv' := [(1, .int x1_2), (0, .int x0_)]) hx hb dJ6_numberOfTrailingZeros_0f7a4_41 hl (k := 1) rfl (by rw [← ex1_2]; rfl) (by decide) rfl (fun ls hl => ?_)
    refine lv_iload_n hx hb dJ6_numberOfTrailingZeros_0f7a4_44 rfl (lv_at hl 1 rfl) ?_
    refine lv_bipush (v := (8 : Int32)) hx hb dJ6_numberOfTrailingZeros_0f7a4_45 (by decide) ?_
    refine lv_iushr (v := ((x0_.toUInt32 >>> ((8 : Int32).toUInt32 &&& Int32.toUInt32 31)).toInt32)) hx hb dJ6_numberOfTrailingZeros_0f7a4_47 rfl ?_
    obtain ⟨x0_3, ex0_3, hf⟩ := oL_e hf
    refine xtopi ex0_3 ?_
    refine lv_istore_n (lv' := [(0, .int x0_3), (1, .int x1_2)]) hx hb dJ6_numberOfTrailingZeros_0f7a4_48 rfl hl (by decide) rfl (fun ls hl => ?_)
    exact w_J6_numberOfTrailingZeros_0f7a4_49  hA hK hZ M res hR x0_3 x1_2  hf hP hD hS (lv_sub hl [0, 1] rfl)
set_option maxHeartbeats 4000000 in
set_option maxRecDepth 100000 in
theorem w_J6_numberOfTrailingZeros_0f7a4_0 {p : Program} {l : Launch} {e : Env} {s : State} {m : MethodId} {args : Array Value} {below : List Frame} {meth : Method} {c : Code} {Q : State → Prop} {A : Nat → Prop} {G : va_G} {cI cJ cZ cO : ClassId} {tS : Nat}  (hA : ∀ q : Nat, s.heap.size ≤ q → A q) (hK : va_K G vwCl (xTY cI cJ cZ cO) s) (hZ : xST tS A s) (M : CallFix p m c cJ6_numberOfTrailingZeros_0f7a4 2 s args wsJ6_numberOfTrailingZeros_0f7a4 RJ6) (res : Int32) (hR : RT_J6_numberOfTrailingZeros_0f7a4 p l e s m args below meth c Q A G cI cJ cZ cO  res)  (x0_ : Int32) (hf : f_J6_numberOfTrailingZeros_0f7a4 x0_ = some res) {H : Heap} {locs : List Loc} {ls : Array Slot} (hP : va_P G vwCl [] H) (hD : va_D A []) (hS : va_S A s.heap H locs) (hl : lv_has ls 2 [(0, .int x0_)]) : W p l e ({ frames := 0, cells := 0, slots := 0, locals := 0 } : Room) s m args below meth c H locs 0 0 Q (F0 m 0 ls []) := by
  obtain ⟨hx, hb, hml, hown, hts⟩ := id M
  unfold f_J6_numberOfTrailingZeros_0f7a4 at hf
  refine lv_iload_n hx hb dJ6_numberOfTrailingZeros_0f7a4_0 rfl (lv_at hl 0 rfl) ?_
  refine lv_iconst (v := (-1 : Int32)) hx hb dJ6_numberOfTrailingZeros_0f7a4_1 (by decide) ?_
  refine lv_ixor hx hb dJ6_numberOfTrailingZeros_0f7a4_2 ?_
  refine lv_iload_n hx hb dJ6_numberOfTrailingZeros_0f7a4_3 rfl (lv_at hl 0 rfl) ?_
  refine lv_iconst (v := (1 : Int32)) hx hb dJ6_numberOfTrailingZeros_0f7a4_4 (by decide) ?_
  refine lv_isub hx hb dJ6_numberOfTrailingZeros_0f7a4_5 ?_
  refine lv_iand hx hb dJ6_numberOfTrailingZeros_0f7a4_6 ?_
  obtain ⟨x0_1, ex0_1, hf⟩ := oL_e hf
  refine xtopi ex0_1 ?_
  refine lv_istore_n (lv' := [(0, .int x0_1)]) hx hb dJ6_numberOfTrailingZeros_0f7a4_7 rfl hl (by decide) rfl (fun ls hl => ?_)
  refine lv_iload_n hx hb dJ6_numberOfTrailingZeros_0f7a4_8 rfl (lv_at hl 0 rfl) ?_
  refine lv_if_gt (tgt := 17) hx hb dJ6_numberOfTrailingZeros_0f7a4_9 (by decide) (fun hc2 => ?_) (fun hc2 => ?_)
  · have hf := oI_t hc2 hf
    refine lv_iconst (v := (1 : Int32)) hx hb dJ6_numberOfTrailingZeros_0f7a4_17 (by decide) ?_
    refine lv_istore_n (lv' := [(1, .int (1 : Int32)), (0, .int x0_1)]) hx hb dJ6_numberOfTrailingZeros_0f7a4_18 rfl hl (by decide) rfl (fun ls hl => ?_)
    refine lv_iload_n hx hb dJ6_numberOfTrailingZeros_0f7a4_19 rfl (lv_at hl 1 rfl) ?_
    refine lv_ldcw (v := (65536)) hx hb hown (hts _ kc_J6_numberOfTrailingZeros_0f7a4_264) dJ6_numberOfTrailingZeros_0f7a4_20 ?_
    refine lv_icmp_le (tgt := 34) hx hb dJ6_numberOfTrailingZeros_0f7a4_23 (by decide) (fun hc3 => ?_) (fun hc3 => ?_)
    · have hf := oI_t hc3 hf
      exact w_J6_numberOfTrailingZeros_0f7a4_34  hA hK hZ M res hR x0_1 (1 : Int32)  hf hP hD hS (lv_sub hl [1, 0] rfl)
    · have hf := oI_f hc3 hf
      refine lv_iinc (v := (17 : Int32)) (lv' := [(1, .int (17 : Int32)), (0, .int x0_1)]) hx hb dJ6_numberOfTrailingZeros_0f7a4_26 hl (k := 0) rfl (by decide) (by decide) rfl (fun ls hl => ?_)
      refine lv_iload_n hx hb dJ6_numberOfTrailingZeros_0f7a4_29 rfl (lv_at hl 1 rfl) ?_
      refine lv_bipush (v := (16 : Int32)) hx hb dJ6_numberOfTrailingZeros_0f7a4_30 (by decide) ?_
      refine lv_iushr (v := ((x0_1.toUInt32 >>> ((16 : Int32).toUInt32 &&& Int32.toUInt32 31)).toInt32)) hx hb dJ6_numberOfTrailingZeros_0f7a4_32 rfl ?_
      obtain ⟨x0_4, ex0_4, hf⟩ := oL_e hf
      refine xtopi ex0_4 ?_
      refine lv_istore_n (lv' := [(0, .int x0_4), (1, .int (17 : Int32))]) hx hb dJ6_numberOfTrailingZeros_0f7a4_33 rfl hl (by decide) rfl (fun ls hl => ?_)
      exact w_J6_numberOfTrailingZeros_0f7a4_34  hA hK hZ M res hR x0_4 (17 : Int32)  hf hP hD hS (lv_sub hl [0, 1] rfl)
  · have hf := oI_f hc2 hf
    refine lv_iload_n hx hb dJ6_numberOfTrailingZeros_0f7a4_12 rfl (lv_at hl 0 rfl) ?_
    refine lv_bipush (v := (32 : Int32)) hx hb dJ6_numberOfTrailingZeros_0f7a4_13 (by decide) ?_
    refine lv_iand hx hb dJ6_numberOfTrailingZeros_0f7a4_15 ?_
    exact hR _ hf _ _ _ _ dJ6_numberOfTrailingZeros_0f7a4_16 hP hD hS
set_option maxHeartbeats 4000000 in
set_option maxRecDepth 100000 in
theorem c_J6_numberOfTrailingZeros_0f7a4 (l : Launch) (G : va_G) (cI cJ cZ cO : ClassId) (tS sz : Nat)   (x0_ : Int32) (v_ : Int32) (hf : f_J6_numberOfTrailingZeros_0f7a4 x0_ = some v_) : Met l yJ6_numberOfTrailingZeros_0f7a4 wsJ6_numberOfTrailingZeros_0f7a4 ({ frames := 0, cells := 0, slots := 0, locals := 0 } : Room) (xPre G (xTY cI cJ cZ cO) tS [] sz [.int x0_]) (xQi G [] sz (fun _ : Unit => []) v_) 0 0 (va_A [] sz) := by
  refine xMet (cc := cJ6_numberOfTrailingZeros_0f7a4) (maxL := 2) (ret := (some .int)) (own := RJ6) (by decide +kernel) rfl rfl (Nat.le_of_ble_eq_true rfl) rfl ?_
  intro p e s m below meth c ls M hr hlk hin hsz hA hK hZ hP hD hl
  refine w_J6_numberOfTrailingZeros_0f7a4_0  hA hK hZ M v_ (fun v_' hres H locs ls pc hd hP hD hS => ?_)  x0_ hf hP hD va_S.rf hl
  cases hres
  exact xreti (W1 := fun _ : Unit => []) M hr hlk () hP hD hS hd
/-! BetweenBoth$Look.lowestOf(I)I -/
theorem mm_X1_lowestOf_71 : Cond.methodLink RX1 71 Lib.Math.min.name ∈ wsX1_lowestOf ∧ Cond.static Lib.Math.min.name ∈ wsX1_lowestOf ∧ Cond.initialized "java/lang/Math" ∈ wsX1_lowestOf ∧ Cond.code Lib.Math.min.name Lib.Math.min.code 2 (some .int) ∈ wsX1_lowestOf := by decide +kernel
theorem hd_X1_lowestOf : yX1_lowestOf.cls ≠ "java/lang/invoke/MethodHandle" ∧ yX1_lowestOf.cls ≠ "java/lang/invoke/VarHandle" ∧ (parseMethodDescriptor yX1_lowestOf.desc).map (fun d => d.parameters.length) = some 1 := by decide +kernel
def RT_X1_lowestOf (p : Program) (l : Launch) (e : Env) (s : State) (m : MethodId) (args : Array Value) (below : List Frame) (meth : Method) (c : Code) (Q : State → Prop) (A : Nat → Prop) (G : va_G) (cI cJ cZ cO : ClassId)  (res : Int32) : Prop := ∀ (v_ : Int32), some v_ = some res → ∀ (H : Heap) (locs : List Loc) (ls : Array Slot) (pc : Nat), decode cX1_lowestOf pc = .ok (.ireturn, 1) → va_P G vwCl [] H → va_D A [] → va_S A s.heap H locs → W p l e ({ frames := 1, cells := 0, slots := 0, locals := 21 } : Room) s m args below meth c H locs 0 0 Q (F0 m pc ls [.int v_])
set_option maxHeartbeats 4000000 in
set_option maxRecDepth 100000 in
theorem w_X1_lowestOf_0 {p : Program} {l : Launch} {e : Env} {s : State} {m : MethodId} {args : Array Value} {below : List Frame} {meth : Method} {c : Code} {Q : State → Prop} {A : Nat → Prop} {G : va_G} {cI cJ cZ cO : ClassId} {tS : Nat}  (hA : ∀ q : Nat, s.heap.size ≤ q → A q) (hK : va_K G vwCl (xTY cI cJ cZ cO) s) (hZ : xST tS A s) (M : CallFix p m c cX1_lowestOf 1 s args wsX1_lowestOf RX1) (res : Int32) (hR : RT_X1_lowestOf p l e s m args below meth c Q A G cI cJ cZ cO  res)  (x0_ : Int32) (hf : f_X1_lowestOf x0_ = some res) {H : Heap} {locs : List Loc} {ls : Array Slot} (hP : va_P G vwCl [] H) (hD : va_D A []) (hS : va_S A s.heap H locs) (hl : lv_has ls 1 [(0, .int x0_)]) : W p l e ({ frames := 1, cells := 0, slots := 0, locals := 21 } : Room) s m args below meth c H locs 0 0 Q (F0 m 0 ls []) := by
  obtain ⟨hx, hb, hml, hown, hts⟩ := id M
  unfold f_X1_lowestOf at hf
  refine lv_iload_n hx hb dX1_lowestOf_0 rfl (lv_at hl 0 rfl) ?_
  obtain ⟨r1, hq2, hf⟩ := oB1_e hf
  refine xci (wr := []) (ws' := fun _ => []) hA hP hD hS (xrS (As := [.int x0_]) (rest := []) M hA hK hZ hP hD hS (c_J6_numberOfTrailingZeros_0f7a4 l G cI cJ cZ cO tS H.size x0_ r1 hq2) (va_cwS 1 hts gX1_lowestOf_J6_numberOfTrailingZeros_0f7a4 rfl rfl rfl hd_J6_numberOfTrailingZeros_0f7a4 ⟨Nat.le_of_ble_eq_true rfl, Nat.le_of_ble_eq_true rfl⟩) [] rfl rfl rfl hl.1 rfl (Nat.le_of_ble_eq_true rfl) dX1_lowestOf_1 ⟨Nat.le_of_ble_eq_true rfl, Nat.le_of_ble_eq_true rfl⟩) [] [] [] rfl rfl rfl rfl (fun _ => rfl) rfl (fun _ H locs hP hD hS => ?_)
  refine lv_bipush (v := (10 : Int32)) hx hb dX1_lowestOf_4 (by decide) ?_
  refine va_mmin hx hb (hml.trans hl.1.symm) hown (hts _ mm_X1_lowestOf_71.1) (hts _ mm_X1_lowestOf_71.2.1) (hts _ mm_X1_lowestOf_71.2.2.1) (hts _ mm_X1_lowestOf_71.2.2.2) (Nat.le_of_ble_eq_true rfl) (Nat.le_of_ble_eq_true rfl) (Nat.le_of_ble_eq_true rfl) (Nat.le_of_ble_eq_true rfl) dX1_lowestOf_6 ?_
  exact hR _ hf _ _ _ _ dX1_lowestOf_9 hP hD hS
set_option maxHeartbeats 4000000 in
set_option maxRecDepth 100000 in
theorem c_X1_lowestOf (l : Launch) (G : va_G) (cI cJ cZ cO : ClassId) (tS sz : Nat)   (x0_ : Int32) (v_ : Int32) (hf : f_X1_lowestOf x0_ = some v_) : Met l yX1_lowestOf wsX1_lowestOf ({ frames := 1, cells := 0, slots := 0, locals := 21 } : Room) (xPre G (xTY cI cJ cZ cO) tS [] sz [.int x0_]) (xQi G [] sz (fun _ : Unit => []) v_) 0 0 (va_A [] sz) := by
  refine xMet (cc := cX1_lowestOf) (maxL := 1) (ret := (some .int)) (own := RX1) (by decide +kernel) rfl rfl (Nat.le_of_ble_eq_true rfl) rfl ?_
  intro p e s m below meth c ls M hr hlk hin hsz hA hK hZ hP hD hl
  refine w_X1_lowestOf_0  hA hK hZ M v_ (fun v_' hres H locs ls pc hd hP hD hS => ?_)  x0_ hf hP hD va_S.rf hl
  cases hres
  exact xreti (W1 := fun _ : Unit => []) M hr hlk () hP hD hS hd
/-! BetweenBoth$Look.fillRow(I)Z -/
theorem uw_X1_fillRow_X1 : ∀ w ∈ u_ws RX1 TX1 2, w ∈ wsX1_fillRow := by decide +kernel
theorem fl_X1_fillRow_11 : Cond.fieldLink RX1 11 "BetweenBoth$Look" (TX1 0).2.1 (TX1 0).2.2.1 ∈ wsX1_fillRow := by decide +kernel
theorem fl_X1_fillRow_17 : Cond.fieldLink RX1 17 "BetweenBoth$Look" (TX1 1).2.1 (TX1 1).2.2.1 ∈ wsX1_fillRow := by decide +kernel
theorem hd_X1_fillRow : yX1_fillRow.cls = RX1 ∧ yX1_fillRow.cls ≠ "java/lang/invoke/MethodHandle" ∧ yX1_fillRow.cls ≠ "java/lang/invoke/VarHandle" ∧ (parseMethodDescriptor yX1_fillRow.desc).map (fun d => d.parameters.length) = some 1 := by decide +kernel
def RT_X1_fillRow (p : Program) (l : Launch) (e : Env) (s : State) (m : MethodId) (args : Array Value) (below : List Frame) (meth : Method) (c : Code) (Q : State → Prop) (A : Nat → Prop) (G : va_G) (cI cJ cZ cO : ClassId) (a_this : Nat) (a_rows : Nat) (a_ofClauses : Nat) (ofClauses_ : (Nat → Int64)) (res : Int32 × (Nat → Int64)) : Prop := ∀ (v_ : Int32) (o_rows_ : (Nat → Int64)), some (v_, o_rows_) = some res → (v_ = 0 ∨ v_ = 1) → ∀ (H : Heap) (locs : List Loc) (ls : Array Slot) (pc : Nat), decode cX1_fillRow pc = .ok (.ireturn, 1) → va_P G vwCl [(a_this, .inr (1, [.ref a_rows, .ref a_ofClauses])), (a_rows, .inl (cJ, 44, .inr (.inl o_rows_))), (a_ofClauses, .inl (cJ, 40, .inr (.inl ofClauses_)))] H → va_D A [(a_this, .inr (1, [.ref a_rows, .ref a_ofClauses])), (a_rows, .inl (cJ, 44, .inr (.inl o_rows_))), (a_ofClauses, .inl (cJ, 40, .inr (.inl ofClauses_)))] → va_S A s.heap H locs → W p l e ({ frames := 2, cells := 0, slots := 0, locals := 41 } : Room) s m args below meth c H locs 0 0 Q (F0 m pc ls [.int v_])
set_option maxHeartbeats 4000000 in
set_option maxRecDepth 100000 in
theorem wb_X1_fillRow_20 {p : Program} {l : Launch} {e : Env} {s : State} {m : MethodId} {args : Array Value} {below : List Frame} {meth : Method} {c : Code} {Q : State → Prop} {A : Nat → Prop} {G : va_G} {cI cJ cZ cO : ClassId} {tS : Nat} (a_this : Nat) (a_rows : Nat) (a_ofClauses : Nat) (ofClauses_ : (Nat → Int64)) (hA : ∀ q : Nat, s.heap.size ≤ q → A q) (hK : va_K G vwCl (xTY cI cJ cZ cO) s) (hZ : xST tS A s) (M : CallFix p m c cX1_fillRow 9 s args wsX1_fillRow RX1) (res : Int32 × (Nat → Int64)) (hR : RT_X1_fillRow p l e s m args below meth c Q A G cI cJ cZ cO a_this a_rows a_ofClauses ofClauses_ res) (x2_ : Int32) (x3_ : Int32)  (k20 : ((Nat → Int64) × Int64 × Int32) → Option (Int32 × (Nat → Int64))) (hk20 : ∀ (rows_ : (Nat → Int64)) (x4_ : Int64) (x6_ : Int32), k20 (rows_, x4_, x6_) = some res → ∀ {H : Heap} {locs : List Loc} {ls : Array Slot}, va_P G vwCl [(a_this, .inr (1, [.ref a_rows, .ref a_ofClauses])), (a_rows, .inl (cJ, 44, .inr (.inl rows_))), (a_ofClauses, .inl (cJ, 40, .inr (.inl ofClauses_)))] H → va_D A [(a_this, .inr (1, [.ref a_rows, .ref a_ofClauses])), (a_rows, .inl (cJ, 44, .inr (.inl rows_))), (a_ofClauses, .inl (cJ, 40, .inr (.inl ofClauses_)))] → va_S A s.heap H locs → lv_has ls 9 [(0, .ref a_this), (2, .int x2_), (3, .int x3_), (4, .long x4_), (6, .int x6_)] → W p l e ({ frames := 2, cells := 0, slots := 0, locals := 41 } : Room) s m args below meth c H locs 0 0 Q (F0 m 20 ls [])) (rows_ : (Nat → Int64)) (x4_ : Int64) (x6_ : Int32) (hf : b_X1_fillRow_20 ofClauses_ x2_ x3_ k20 rows_ x4_ x6_ = some res) {H : Heap} {locs : List Loc} {ls : Array Slot} (hP : va_P G vwCl [(a_this, .inr (1, [.ref a_rows, .ref a_ofClauses])), (a_rows, .inl (cJ, 44, .inr (.inl rows_))), (a_ofClauses, .inl (cJ, 40, .inr (.inl ofClauses_)))] H) (hD : va_D A [(a_this, .inr (1, [.ref a_rows, .ref a_ofClauses])), (a_rows, .inl (cJ, 44, .inr (.inl rows_))), (a_ofClauses, .inl (cJ, 40, .inr (.inl ofClauses_)))]) (hS : va_S A s.heap H locs) (hl : lv_has ls 9 [(0, .ref a_this), (2, .int x2_), (3, .int x3_), (4, .long x4_), (6, .int x6_)]) : W p l e ({ frames := 2, cells := 0, slots := 0, locals := 41 } : Room) s m args below meth c H locs 0 0 Q (F0 m 20 ls []) := by
  obtain ⟨hx, hb, hml, hown, hts⟩ := id M
  unfold b_X1_fillRow_20 at hf
  refine lv_iload hx hb dX1_fillRow_20 (lv_at hl 4 rfl) ?_
  refine lv_iconst (v := (4 : Int32)) hx hb dX1_fillRow_22 (by decide) ?_
  refine lv_icmp_ge (tgt := 77) hx hb dX1_fillRow_23 (by decide) (fun hc1 => ?_) (fun hc1 => ?_)
  · have hf := oI_t hc1 hf
    refine lv_lload hx hb dX1_fillRow_77 (lv_at hl 3 rfl) ?_
    refine lv_lconst (v := (0 : Int64)) hx hb dX1_fillRow_79 (by decide) ?_
    refine W.lcmp hx hb dX1_fillRow_80 ?_
    refine lv_if_ne (tgt := 88) hx hb dX1_fillRow_81 (by decide) (fun hc2 => ?_) (fun hc2 => ?_)
    · have hf := oI_f hc2 hf
      refine lv_iconst (v := (0 : Int32)) hx hb dX1_fillRow_88 (by decide) ?_
      exact hR _ _ hf (by decide) _ _ _ _ dX1_fillRow_89 hP hD hS
    · have hf := oI_t hc2 hf
      refine lv_iconst (v := (1 : Int32)) hx hb dX1_fillRow_84 (by decide) ?_
      refine lv_goto (tgt := 89) hx hb dX1_fillRow_85 (by decide) ?_
      exact hR _ _ hf (by decide) _ _ _ _ dX1_fillRow_89 hP hD hS
  · have hf := oI_f hc1 hf
    refine lv_aload_n hx hb dX1_fillRow_26 rfl (lv_at hl 0 rfl) ?_
    refine xget M (C := RX1) (T := TX1) (N := 2) (ci := 1) (v := .ref a_rows) uw_X1_fillRow_X1 hK hP 0 rfl rfl 0 (by decide) fl_X1_fillRow_11 rfl rfl dX1_fillRow_27 ?_
    refine lv_iload_n hx hb dX1_fillRow_30 rfl (lv_at hl 2 rfl) ?_
    refine lv_iconst (v := (4 : Int32)) hx hb dX1_fillRow_31 (by decide) ?_
    refine lv_imul hx hb dX1_fillRow_32 ?_
    refine lv_iload hx hb dX1_fillRow_33 (lv_at hl 4 rfl) ?_
    refine lv_iadd hx hb dX1_fillRow_35 ?_
    obtain ⟨j3, hj3, hij3, hf⟩ := oA_e hf
    refine xlald M hK hP 1 1 rfl rfl hj3 hij3 dX1_fillRow_36 ?_
    refine lv_aload_n hx hb dX1_fillRow_37 rfl (lv_at hl 0 rfl) ?_
    refine xget M (C := RX1) (T := TX1) (N := 2) (ci := 1) (v := .ref a_ofClauses) uw_X1_fillRow_X1 hK hP 0 rfl rfl 1 (by decide) fl_X1_fillRow_17 rfl rfl dX1_fillRow_38 ?_
    refine lv_iload_n hx hb dX1_fillRow_41 rfl (lv_at hl 1 rfl) ?_
    refine lv_iconst (v := (4 : Int32)) hx hb dX1_fillRow_42 (by decide) ?_
    refine lv_imul hx hb dX1_fillRow_43 ?_
    refine lv_iload hx hb dX1_fillRow_44 (lv_at hl 4 rfl) ?_
    refine lv_iadd hx hb dX1_fillRow_46 ?_
    obtain ⟨j4, hj4, hij4, hf⟩ := oA_e hf
    refine xlald M hK hP 2 1 rfl rfl hj4 hij4 dX1_fillRow_47 ?_
    refine lv_land hx hb dX1_fillRow_48 ?_
    obtain ⟨x7_5, ex7_5, hf⟩ := oL_e hf
    refine xtopl ex7_5 ?_
    refine lv_lstore (lv' := [(7, .long x7_5), (0, .ref a_this), (2, .int x2_), (3, .int x3_), (4, .long x4_), (6, .int x6_)]) hx hb dX1_fillRow_49 hl (by decide) rfl (fun ls hl => ?_)
    refine lv_aload_n hx hb dX1_fillRow_51 rfl (lv_at hl 1 rfl) ?_
    refine xget M (C := RX1) (T := TX1) (N := 2) (ci := 1) (v := .ref a_rows) uw_X1_fillRow_X1 hK hP 0 rfl rfl 0 (by decide) fl_X1_fillRow_11 rfl rfl dX1_fillRow_52 ?_
    refine lv_iload_n hx hb dX1_fillRow_55 rfl (lv_at hl 2 rfl) ?_
    refine lv_iconst (v := (4 : Int32)) hx hb dX1_fillRow_56 (by decide) ?_
    refine lv_imul hx hb dX1_fillRow_57 ?_
    refine lv_iload hx hb dX1_fillRow_58 (lv_at hl 5 rfl) ?_
    refine lv_iadd hx hb dX1_fillRow_60 ?_
    refine lv_lload hx hb dX1_fillRow_61 (lv_at hl 0 rfl) ?_
    obtain ⟨j6, hj6, hij6, hf⟩ := oA_e hf
    obtain ⟨rows_7, erows_7, hf⟩ := oL_e hf
    refine xlast M hK hP hD hS 1 1 rfl rfl hj6 hij6 erows_7 [(a_this, .inr (1, [.ref a_rows, .ref a_ofClauses])), (a_rows, .inl (cJ, 44, .inr (.inl rows_7))), (a_ofClauses, .inl (cJ, 40, .inr (.inl ofClauses_)))] rfl dX1_fillRow_63 (fun H locs hP hD hS => ?_)
    refine lv_lload hx hb dX1_fillRow_64 (lv_at hl 4 rfl) ?_
    refine lv_lload hx hb dX1_fillRow_66 (lv_at hl 0 rfl) ?_
    refine lv_lor hx hb dX1_fillRow_68 ?_
    obtain ⟨x4_8, ex4_8, hf⟩ := oL_e hf
    refine xtopl ex4_8 ?_
    refine lv_lstore (lv' := [(4, .long x4_8), (7, .long x7_5), (0, .ref a_this), (2, .int x2_), (3, .int x3_), (6, .int x6_)]) hx hb dX1_fillRow_69 hl (by decide) rfl (fun ls hl => ?_)
    obtain ⟨x6_9, ex6_9, hf⟩ := oL_e hf
    refine lv_iinc (v := x6_9) (lv' := [(6, .int x6_9), (4, .long x4_8), (7, .long x7_5), (0, .ref a_this), (2, .int x2_), (3, .int x3_)]) hx hb dX1_fillRow_71 hl (k := 5) rfl (by rw [← ex6_9]; rfl) (by decide) rfl (fun ls hl => ?_)
    refine lv_goto (tgt := 20) hx hb dX1_fillRow_74 (by decide) ?_
    exact hk20 _ _ _ hf hP hD hS (lv_sub hl [3, 4, 5, 1, 0] rfl)
set_option maxHeartbeats 4000000 in
set_option maxRecDepth 100000 in
theorem wl_X1_fillRow_20 {p : Program} {l : Launch} {e : Env} {s : State} {m : MethodId} {args : Array Value} {below : List Frame} {meth : Method} {c : Code} {Q : State → Prop} {A : Nat → Prop} {G : va_G} {cI cJ cZ cO : ClassId} {tS : Nat} (a_this : Nat) (a_rows : Nat) (a_ofClauses : Nat) (ofClauses_ : (Nat → Int64)) (hA : ∀ q : Nat, s.heap.size ≤ q → A q) (hK : va_K G vwCl (xTY cI cJ cZ cO) s) (hZ : xST tS A s) (M : CallFix p m c cX1_fillRow 9 s args wsX1_fillRow RX1) (res : Int32 × (Nat → Int64)) (hR : RT_X1_fillRow p l e s m args below meth c Q A G cI cJ cZ cO a_this a_rows a_ofClauses ofClauses_ res) (x2_ : Int32) (x3_ : Int32)  (n : Nat) : ∀ (rows_ : (Nat → Int64)) (x4_ : Int64) (x6_ : Int32), oF (fun k z => b_X1_fillRow_20 ofClauses_ x2_ x3_ k z.1 z.2.1 z.2.2) n (rows_, x4_, x6_) = some res → ∀ {H : Heap} {locs : List Loc} {ls : Array Slot}, va_P G vwCl [(a_this, .inr (1, [.ref a_rows, .ref a_ofClauses])), (a_rows, .inl (cJ, 44, .inr (.inl rows_))), (a_ofClauses, .inl (cJ, 40, .inr (.inl ofClauses_)))] H → va_D A [(a_this, .inr (1, [.ref a_rows, .ref a_ofClauses])), (a_rows, .inl (cJ, 44, .inr (.inl rows_))), (a_ofClauses, .inl (cJ, 40, .inr (.inl ofClauses_)))] → va_S A s.heap H locs → lv_has ls 9 [(0, .ref a_this), (2, .int x2_), (3, .int x3_), (4, .long x4_), (6, .int x6_)] → W p l e ({ frames := 2, cells := 0, slots := 0, locals := 41 } : Room) s m args below meth c H locs 0 0 Q (F0 m 20 ls []) := by
  induction n with
  | zero => intro rows_ x4_ x6_ hf; cases hf
  | succ n ih =>
    intro rows_ x4_ x6_ hf H locs ls hP hD hS hl
    exact wb_X1_fillRow_20 a_this a_rows a_ofClauses ofClauses_ hA hK hZ M res hR x2_ x3_  _ ih rows_ x4_ x6_ hf hP hD hS hl
set_option maxHeartbeats 4000000 in
set_option maxRecDepth 100000 in
theorem w_X1_fillRow_0 {p : Program} {l : Launch} {e : Env} {s : State} {m : MethodId} {args : Array Value} {below : List Frame} {meth : Method} {c : Code} {Q : State → Prop} {A : Nat → Prop} {G : va_G} {cI cJ cZ cO : ClassId} {tS : Nat} (a_this : Nat) (a_rows : Nat) (a_ofClauses : Nat) (ofClauses_ : (Nat → Int64)) (hA : ∀ q : Nat, s.heap.size ≤ q → A q) (hK : va_K G vwCl (xTY cI cJ cZ cO) s) (hZ : xST tS A s) (M : CallFix p m c cX1_fillRow 9 s args wsX1_fillRow RX1) (res : Int32 × (Nat → Int64)) (hR : RT_X1_fillRow p l e s m args below meth c Q A G cI cJ cZ cO a_this a_rows a_ofClauses ofClauses_ res) (rows_ : (Nat → Int64)) (x1_ : Int32) (hf : f_X1_fillRow rows_ ofClauses_ x1_ = some res) {H : Heap} {locs : List Loc} {ls : Array Slot} (hP : va_P G vwCl [(a_this, .inr (1, [.ref a_rows, .ref a_ofClauses])), (a_rows, .inl (cJ, 44, .inr (.inl rows_))), (a_ofClauses, .inl (cJ, 40, .inr (.inl ofClauses_)))] H) (hD : va_D A [(a_this, .inr (1, [.ref a_rows, .ref a_ofClauses])), (a_rows, .inl (cJ, 44, .inr (.inl rows_))), (a_ofClauses, .inl (cJ, 40, .inr (.inl ofClauses_)))]) (hS : va_S A s.heap H locs) (hl : lv_has ls 9 [(0, .ref a_this), (1, .int x1_)]) : W p l e ({ frames := 2, cells := 0, slots := 0, locals := 41 } : Room) s m args below meth c H locs 0 0 Q (F0 m 0 ls []) := by
  obtain ⟨hx, hb, hml, hown, hts⟩ := id M
  unfold f_X1_fillRow at hf
  refine lv_iload_n hx hb dX1_fillRow_0 rfl (lv_at hl 1 rfl) ?_
  obtain ⟨r1, hq2, hf⟩ := oB1_e hf
  refine xci (wr := [(a_this, .inr (1, [.ref a_rows, .ref a_ofClauses])), (a_rows, .inl (cJ, 44, .inr (.inl rows_))), (a_ofClauses, .inl (cJ, 40, .inr (.inl ofClauses_)))]) (ws' := fun _ => [(a_this, .inr (1, [.ref a_rows, .ref a_ofClauses])), (a_rows, .inl (cJ, 44, .inr (.inl rows_))), (a_ofClauses, .inl (cJ, 40, .inr (.inl ofClauses_)))]) hA hP hD hS (xrS (As := [.int x1_]) (rest := []) M hA hK hZ hP hD hS (c_X1_lowestOf l G cI cJ cZ cO tS H.size x1_ r1 hq2) (va_cwS 1 hts gX1_fillRow_X1_lowestOf rfl rfl rfl hd_X1_lowestOf ⟨Nat.le_of_ble_eq_true rfl, Nat.le_of_ble_eq_true rfl⟩) [] rfl rfl rfl hl.1 rfl (Nat.le_of_ble_eq_true rfl) dX1_fillRow_1 ⟨Nat.le_of_ble_eq_true rfl, Nat.le_of_ble_eq_true rfl⟩) [] [0, 1, 2] [0, 1, 2] rfl rfl rfl rfl (fun _ => rfl) rfl (fun _ H locs hP hD hS => ?_)
  refine lv_istore_n (lv' := [(2, .int r1), (0, .ref a_this), (1, .int x1_)]) hx hb dX1_fillRow_4 rfl hl (by decide) rfl (fun ls hl => ?_)
  refine lv_iload_n hx hb dX1_fillRow_5 rfl (lv_at hl 2 rfl) ?_
  refine lv_iload_n hx hb dX1_fillRow_6 rfl (lv_at hl 2 rfl) ?_
  refine lv_iconst (v := (1 : Int32)) hx hb dX1_fillRow_7 (by decide) ?_
  refine lv_isub hx hb dX1_fillRow_8 ?_
  refine lv_iand hx hb dX1_fillRow_9 ?_
  obtain ⟨r3, hq4, hf⟩ := oB1_e hf
  refine xci (wr := [(a_this, .inr (1, [.ref a_rows, .ref a_ofClauses])), (a_rows, .inl (cJ, 44, .inr (.inl rows_))), (a_ofClauses, .inl (cJ, 40, .inr (.inl ofClauses_)))]) (ws' := fun _ => [(a_this, .inr (1, [.ref a_rows, .ref a_ofClauses])), (a_rows, .inl (cJ, 44, .inr (.inl rows_))), (a_ofClauses, .inl (cJ, 40, .inr (.inl ofClauses_)))]) hA hP hD hS (xrS (As := [.int (x1_ &&& (x1_ - (1 : Int32)))]) (rest := []) M hA hK hZ hP hD hS (c_X1_lowestOf l G cI cJ cZ cO tS H.size (x1_ &&& (x1_ - (1 : Int32))) r3 hq4) (va_cwS 1 hts gX1_fillRow_X1_lowestOf rfl rfl rfl hd_X1_lowestOf ⟨Nat.le_of_ble_eq_true rfl, Nat.le_of_ble_eq_true rfl⟩) [] rfl rfl rfl hl.1 rfl (Nat.le_of_ble_eq_true rfl) dX1_fillRow_10 ⟨Nat.le_of_ble_eq_true rfl, Nat.le_of_ble_eq_true rfl⟩) [] [0, 1, 2] [0, 1, 2] rfl rfl rfl rfl (fun _ => rfl) rfl (fun _ H locs hP hD hS => ?_)
  refine lv_istore_n (lv' := [(3, .int r3), (2, .int r1), (0, .ref a_this), (1, .int x1_)]) hx hb dX1_fillRow_13 rfl hl (by decide) rfl (fun ls hl => ?_)
  refine lv_lconst (v := (0 : Int64)) hx hb dX1_fillRow_14 (by decide) ?_
  refine lv_lstore (lv' := [(4, .long (0 : Int64)), (3, .int r3), (2, .int r1), (0, .ref a_this), (1, .int x1_)]) hx hb dX1_fillRow_15 hl (by decide) rfl (fun ls hl => ?_)
  refine lv_iconst (v := (0 : Int32)) hx hb dX1_fillRow_17 (by decide) ?_
  refine lv_istore (lv' := [(6, .int (0 : Int32)), (4, .long (0 : Int64)), (3, .int r3), (2, .int r1), (0, .ref a_this), (1, .int x1_)]) hx hb dX1_fillRow_18 hl (by decide) rfl (fun ls hl => ?_)
  exact wl_X1_fillRow_20 a_this a_rows a_ofClauses ofClauses_ hA hK hZ M res hR r1 r3  xN rows_ (0 : Int64) (0 : Int32) hf hP hD hS (lv_sub hl [4, 3, 2, 1, 0] rfl)
set_option maxHeartbeats 4000000 in
set_option maxRecDepth 100000 in
theorem c_X1_fillRow (l : Launch) (G : va_G) (cI cJ cZ cO : ClassId) (tS sz : Nat) (a_this : Nat) (a_rows : Nat) (a_ofClauses : Nat) (ofClauses_ : (Nat → Int64)) (rows_ : (Nat → Int64)) (x1_ : Int32) (v_ : Int32) (o_rows_ : (Nat → Int64)) (hf : f_X1_fillRow rows_ ofClauses_ x1_ = some (v_, o_rows_)) : Met l yX1_fillRow wsX1_fillRow ({ frames := 2, cells := 0, slots := 0, locals := 41 } : Room) (xPre G (xTY cI cJ cZ cO) tS [(a_this, .inr (1, [.ref a_rows, .ref a_ofClauses])), (a_rows, .inl (cJ, 44, .inr (.inl rows_))), (a_ofClauses, .inl (cJ, 40, .inr (.inl ofClauses_)))] sz [.ref a_this, .int x1_]) (xQi G [(a_this, .inr (1, [.ref a_rows, .ref a_ofClauses])), (a_rows, .inl (cJ, 44, .inr (.inl rows_))), (a_ofClauses, .inl (cJ, 40, .inr (.inl ofClauses_)))] sz (fun _ : Unit => [(a_this, .inr (1, [.ref a_rows, .ref a_ofClauses])), (a_rows, .inl (cJ, 44, .inr (.inl o_rows_))), (a_ofClauses, .inl (cJ, 40, .inr (.inl ofClauses_)))]) v_) 0 0 (va_A [(a_this, .inr (1, [.ref a_rows, .ref a_ofClauses])), (a_rows, .inl (cJ, 44, .inr (.inl rows_))), (a_ofClauses, .inl (cJ, 40, .inr (.inl ofClauses_)))] sz) := by
  refine xMet (cc := cX1_fillRow) (maxL := 9) (ret := (some .boolean)) (own := RX1) (by decide +kernel) rfl rfl (Nat.le_of_ble_eq_true rfl) rfl ?_
  intro p e s m below meth c ls M hr hlk hin hsz hA hK hZ hP hD hl
  refine w_X1_fillRow_0 a_this a_rows a_ofClauses ofClauses_ hA hK hZ M (v_, o_rows_) (fun v_' o_rows_' hres hz H locs ls pc hd hP hD hS => ?_) rows_ x1_ hf hP hD va_S.rf hl
  cases hres
  exact xretz (W1 := fun _ : Unit => [(a_this, .inr (1, [.ref a_rows, .ref a_ofClauses])), (a_rows, .inl (cJ, 44, .inr (.inl o_rows_))), (a_ofClauses, .inl (cJ, 40, .inr (.inl ofClauses_)))]) M hr hlk hz () hP hD hS hd
/-! java/lang/Integer.bitCount(I)I -/
theorem kc_J6_bitCount_0f7a4_265 : Cond.constant RJ6 265 (1431655765) ∈ wsJ6_bitCount_0f7a4 := by decide +kernel
theorem kc_J6_bitCount_0f7a4_266 : Cond.constant RJ6 266 (858993459) ∈ wsJ6_bitCount_0f7a4 := by decide +kernel
theorem kc_J6_bitCount_0f7a4_267 : Cond.constant RJ6 267 (252645135) ∈ wsJ6_bitCount_0f7a4 := by decide +kernel
theorem hd_J6_bitCount_0f7a4 : yJ6_bitCount_0f7a4.cls ≠ "java/lang/invoke/MethodHandle" ∧ yJ6_bitCount_0f7a4.cls ≠ "java/lang/invoke/VarHandle" ∧ (parseMethodDescriptor yJ6_bitCount_0f7a4.desc).map (fun d => d.parameters.length) = some 1 := by decide +kernel
def RT_J6_bitCount_0f7a4 (p : Program) (l : Launch) (e : Env) (s : State) (m : MethodId) (args : Array Value) (below : List Frame) (meth : Method) (c : Code) (Q : State → Prop) (A : Nat → Prop) (G : va_G) (cI cJ cZ cO : ClassId)  (res : Int32) : Prop := ∀ (v_ : Int32), some v_ = some res → ∀ (H : Heap) (locs : List Loc) (ls : Array Slot) (pc : Nat), decode cJ6_bitCount_0f7a4 pc = .ok (.ireturn, 1) → va_P G vwCl [] H → va_D A [] → va_S A s.heap H locs → W p l e ({ frames := 0, cells := 0, slots := 0, locals := 0 } : Room) s m args below meth c H locs 0 0 Q (F0 m pc ls [.int v_])
set_option maxHeartbeats 4000000 in
set_option maxRecDepth 100000 in
theorem w_J6_bitCount_0f7a4_0 {p : Program} {l : Launch} {e : Env} {s : State} {m : MethodId} {args : Array Value} {below : List Frame} {meth : Method} {c : Code} {Q : State → Prop} {A : Nat → Prop} {G : va_G} {cI cJ cZ cO : ClassId} {tS : Nat}  (hA : ∀ q : Nat, s.heap.size ≤ q → A q) (hK : va_K G vwCl (xTY cI cJ cZ cO) s) (hZ : xST tS A s) (M : CallFix p m c cJ6_bitCount_0f7a4 1 s args wsJ6_bitCount_0f7a4 RJ6) (res : Int32) (hR : RT_J6_bitCount_0f7a4 p l e s m args below meth c Q A G cI cJ cZ cO  res)  (x0_ : Int32) (hf : f_J6_bitCount_0f7a4 x0_ = some res) {H : Heap} {locs : List Loc} {ls : Array Slot} (hP : va_P G vwCl [] H) (hD : va_D A []) (hS : va_S A s.heap H locs) (hl : lv_has ls 1 [(0, .int x0_)]) : W p l e ({ frames := 0, cells := 0, slots := 0, locals := 0 } : Room) s m args below meth c H locs 0 0 Q (F0 m 0 ls []) := by
  obtain ⟨hx, hb, hml, hown, hts⟩ := id M
  unfold f_J6_bitCount_0f7a4 at hf
  refine lv_iload_n hx hb dJ6_bitCount_0f7a4_0 rfl (lv_at hl 0 rfl) ?_
  refine lv_iload_n hx hb dJ6_bitCount_0f7a4_1 rfl (lv_at hl 0 rfl) ?_
  refine lv_iconst (v := (1 : Int32)) hx hb dJ6_bitCount_0f7a4_2 (by decide) ?_
  refine lv_iushr (v := ((x0_.toUInt32 >>> ((1 : Int32).toUInt32 &&& Int32.toUInt32 31)).toInt32)) hx hb dJ6_bitCount_0f7a4_3 rfl ?_
  refine lv_ldcw (v := (1431655765)) hx hb hown (hts _ kc_J6_bitCount_0f7a4_265) dJ6_bitCount_0f7a4_4 ?_
  refine lv_iand hx hb dJ6_bitCount_0f7a4_7 ?_
  refine lv_isub hx hb dJ6_bitCount_0f7a4_8 ?_
  obtain ⟨x0_1, ex0_1, hf⟩ := oL_e hf
  refine xtopi ex0_1 ?_
  refine lv_istore_n (lv' := [(0, .int x0_1)]) hx hb dJ6_bitCount_0f7a4_9 rfl hl (by decide) rfl (fun ls hl => ?_)
  refine lv_iload_n hx hb dJ6_bitCount_0f7a4_10 rfl (lv_at hl 0 rfl) ?_
  refine lv_ldcw (v := (858993459)) hx hb hown (hts _ kc_J6_bitCount_0f7a4_266) dJ6_bitCount_0f7a4_11 ?_
  refine lv_iand hx hb dJ6_bitCount_0f7a4_14 ?_
  refine lv_iload_n hx hb dJ6_bitCount_0f7a4_15 rfl (lv_at hl 0 rfl) ?_
  refine lv_iconst (v := (2 : Int32)) hx hb dJ6_bitCount_0f7a4_16 (by decide) ?_
  refine lv_iushr (v := ((x0_1.toUInt32 >>> ((2 : Int32).toUInt32 &&& Int32.toUInt32 31)).toInt32)) hx hb dJ6_bitCount_0f7a4_17 rfl ?_
  refine lv_ldcw (v := (858993459)) hx hb hown (hts _ kc_J6_bitCount_0f7a4_266) dJ6_bitCount_0f7a4_18 ?_
  refine lv_iand hx hb dJ6_bitCount_0f7a4_21 ?_
  refine lv_iadd hx hb dJ6_bitCount_0f7a4_22 ?_
  obtain ⟨x0_2, ex0_2, hf⟩ := oL_e hf
  refine xtopi ex0_2 ?_
  refine lv_istore_n (lv' := [(0, .int x0_2)]) hx hb dJ6_bitCount_0f7a4_23 rfl hl (by decide) rfl (fun ls hl => ?_)
  refine lv_iload_n hx hb dJ6_bitCount_0f7a4_24 rfl (lv_at hl 0 rfl) ?_
  refine lv_iload_n hx hb dJ6_bitCount_0f7a4_25 rfl (lv_at hl 0 rfl) ?_
  refine lv_iconst (v := (4 : Int32)) hx hb dJ6_bitCount_0f7a4_26 (by decide) ?_
  refine lv_iushr (v := ((x0_2.toUInt32 >>> ((4 : Int32).toUInt32 &&& Int32.toUInt32 31)).toInt32)) hx hb dJ6_bitCount_0f7a4_27 rfl ?_
  refine lv_iadd hx hb dJ6_bitCount_0f7a4_28 ?_
  refine lv_ldcw (v := (252645135)) hx hb hown (hts _ kc_J6_bitCount_0f7a4_267) dJ6_bitCount_0f7a4_29 ?_
  refine lv_iand hx hb dJ6_bitCount_0f7a4_32 ?_
  obtain ⟨x0_3, ex0_3, hf⟩ := oL_e hf
  refine xtopi ex0_3 ?_
  refine lv_istore_n (lv' := [(0, .int x0_3)]) hx hb dJ6_bitCount_0f7a4_33 rfl hl (by decide) rfl (fun ls hl => ?_)
  refine lv_iload_n hx hb dJ6_bitCount_0f7a4_34 rfl (lv_at hl 0 rfl) ?_
  refine lv_iload_n hx hb dJ6_bitCount_0f7a4_35 rfl (lv_at hl 0 rfl) ?_
  refine lv_bipush (v := (8 : Int32)) hx hb dJ6_bitCount_0f7a4_36 (by decide) ?_
  refine lv_iushr (v := ((x0_3.toUInt32 >>> ((8 : Int32).toUInt32 &&& Int32.toUInt32 31)).toInt32)) hx hb dJ6_bitCount_0f7a4_38 rfl ?_
  refine lv_iadd hx hb dJ6_bitCount_0f7a4_39 ?_
  obtain ⟨x0_4, ex0_4, hf⟩ := oL_e hf
  refine xtopi ex0_4 ?_
  refine lv_istore_n (lv' := [(0, .int x0_4)]) hx hb dJ6_bitCount_0f7a4_40 rfl hl (by decide) rfl (fun ls hl => ?_)
  refine lv_iload_n hx hb dJ6_bitCount_0f7a4_41 rfl (lv_at hl 0 rfl) ?_
  refine lv_iload_n hx hb dJ6_bitCount_0f7a4_42 rfl (lv_at hl 0 rfl) ?_
  refine lv_bipush (v := (16 : Int32)) hx hb dJ6_bitCount_0f7a4_43 (by decide) ?_
  refine lv_iushr (v := ((x0_4.toUInt32 >>> ((16 : Int32).toUInt32 &&& Int32.toUInt32 31)).toInt32)) hx hb dJ6_bitCount_0f7a4_45 rfl ?_
  refine lv_iadd hx hb dJ6_bitCount_0f7a4_46 ?_
  obtain ⟨x0_5, ex0_5, hf⟩ := oL_e hf
  refine xtopi ex0_5 ?_
  refine lv_istore_n (lv' := [(0, .int x0_5)]) hx hb dJ6_bitCount_0f7a4_47 rfl hl (by decide) rfl (fun ls hl => ?_)
  refine lv_iload_n hx hb dJ6_bitCount_0f7a4_48 rfl (lv_at hl 0 rfl) ?_
  refine lv_bipush (v := (63 : Int32)) hx hb dJ6_bitCount_0f7a4_49 (by decide) ?_
  refine lv_iand hx hb dJ6_bitCount_0f7a4_51 ?_
  exact hR _ hf _ _ _ _ dJ6_bitCount_0f7a4_52 hP hD hS
set_option maxHeartbeats 4000000 in
set_option maxRecDepth 100000 in
theorem c_J6_bitCount_0f7a4 (l : Launch) (G : va_G) (cI cJ cZ cO : ClassId) (tS sz : Nat)   (x0_ : Int32) (v_ : Int32) (hf : f_J6_bitCount_0f7a4 x0_ = some v_) : Met l yJ6_bitCount_0f7a4 wsJ6_bitCount_0f7a4 ({ frames := 0, cells := 0, slots := 0, locals := 0 } : Room) (xPre G (xTY cI cJ cZ cO) tS [] sz [.int x0_]) (xQi G [] sz (fun _ : Unit => []) v_) 0 0 (va_A [] sz) := by
  refine xMet (cc := cJ6_bitCount_0f7a4) (maxL := 1) (ret := (some .int)) (own := RJ6) (by decide +kernel) rfl rfl (Nat.le_of_ble_eq_true rfl) rfl ?_
  intro p e s m below meth c ls M hr hlk hin hsz hA hK hZ hP hD hl
  refine w_J6_bitCount_0f7a4_0  hA hK hZ M v_ (fun v_' hres H locs ls pc hd hP hD hS => ?_)  x0_ hf hP hD va_S.rf hl
  cases hres
  exact xreti (W1 := fun _ : Unit => []) M hr hlk () hP hD hS hd
/-! BetweenBoth$Look.leastOf(LBetweenBoth$Steps;)I -/
theorem uw_X1_leastOf_X5 : ∀ w ∈ u_ws RX5 TX5 5, w ∈ wsX1_leastOf := by decide +kernel
theorem fl_X1_leastOf_22 : Cond.fieldLink RX1 22 "BetweenBoth$Steps" (TX5 1).2.1 (TX5 1).2.2.1 ∈ wsX1_leastOf := by decide +kernel
theorem hd_X1_leastOf : yX1_leastOf.cls = RX1 ∧ yX1_leastOf.cls ≠ "java/lang/invoke/MethodHandle" ∧ yX1_leastOf.cls ≠ "java/lang/invoke/VarHandle" ∧ (parseMethodDescriptor yX1_leastOf.desc).map (fun d => d.parameters.length) = some 1 := by decide +kernel
def RT_X1_leastOf (p : Program) (l : Launch) (e : Env) (s : State) (m : MethodId) (args : Array Value) (below : List Frame) (meth : Method) (c : Code) (Q : State → Prop) (A : Nat → Prop) (G : va_G) (cI cJ cZ cO : ClassId) (a_this : Nat) (a_rows : Nat) (a_ofClauses : Nat) (a_p1 : Nat) (a_p1_cells : Nat) (u_p1_count_ : Value) (u_p1_lettersOfA_ : Value) (u_p1_lettersOfB_ : Value) (p1_clauses_ : Int32) (p1_cells_ : (Nat → Int32)) (res : Int32 × (Nat → Int64) × (Nat → Int64)) : Prop := ∀ (v_ : Int32) (o_rows_ : (Nat → Int64)) (o_ofClauses_ : (Nat → Int64)), some (v_, o_rows_, o_ofClauses_) = some res → ∀ (H : Heap) (locs : List Loc) (ls : Array Slot) (pc : Nat), decode cX1_leastOf pc = .ok (.ireturn, 1) → va_P G vwCl [(a_this, .inr (1, [.ref a_rows, .ref a_ofClauses])), (a_rows, .inl (cJ, 44, .inr (.inl o_rows_))), (a_ofClauses, .inl (cJ, 40, .inr (.inl o_ofClauses_))), (a_p1, .inr (5, [.ref a_p1_cells, .int p1_clauses_, u_p1_count_, u_p1_lettersOfA_, u_p1_lettersOfB_])), (a_p1_cells, .inl (cI, 320, .inl p1_cells_))] H → va_D A [(a_this, .inr (1, [.ref a_rows, .ref a_ofClauses])), (a_rows, .inl (cJ, 44, .inr (.inl o_rows_))), (a_ofClauses, .inl (cJ, 40, .inr (.inl o_ofClauses_))), (a_p1, .inr (5, [.ref a_p1_cells, .int p1_clauses_, u_p1_count_, u_p1_lettersOfA_, u_p1_lettersOfB_])), (a_p1_cells, .inl (cI, 320, .inl p1_cells_))] → va_S A s.heap H locs → W p l e ({ frames := 3, cells := 0, slots := 0, locals := 69 } : Room) s m args below meth c H locs 0 0 Q (F0 m pc ls [.int v_])
set_option maxHeartbeats 4000000 in
set_option maxRecDepth 100000 in
theorem w_X1_leastOf_55 {p : Program} {l : Launch} {e : Env} {s : State} {m : MethodId} {args : Array Value} {below : List Frame} {meth : Method} {c : Code} {Q : State → Prop} {A : Nat → Prop} {G : va_G} {cI cJ cZ cO : ClassId} {tS : Nat} (a_this : Nat) (a_rows : Nat) (a_ofClauses : Nat) (a_p1 : Nat) (a_p1_cells : Nat) (u_p1_count_ : Value) (u_p1_lettersOfA_ : Value) (u_p1_lettersOfB_ : Value) (p1_clauses_ : Int32) (p1_cells_ : (Nat → Int32)) (hA : ∀ q : Nat, s.heap.size ≤ q → A q) (hK : va_K G vwCl (xTY cI cJ cZ cO) s) (hZ : xST tS A s) (M : CallFix p m c cX1_leastOf 6 s args wsX1_leastOf RX1) (res : Int32 × (Nat → Int64) × (Nat → Int64)) (hR : RT_X1_leastOf p l e s m args below meth c Q A G cI cJ cZ cO a_this a_rows a_ofClauses a_p1 a_p1_cells u_p1_count_ u_p1_lettersOfA_ u_p1_lettersOfB_ p1_clauses_ p1_cells_ res) (rows_ : (Nat → Int64)) (ofClauses_ : (Nat → Int64)) (x2_ : Int32) (x3_ : Int32) (x4_ : Int32) (k13 : ((Nat → Int64) × Int32 × Int32 × Int32) → Option (Int32 × (Nat → Int64) × (Nat → Int64))) (hk13 : ∀ (rows_ : (Nat → Int64)) (x2_ : Int32) (x3_ : Int32) (x4_ : Int32), k13 (rows_, x2_, x3_, x4_) = some res → ∀ {H : Heap} {locs : List Loc} {ls : Array Slot}, va_P G vwCl [(a_this, .inr (1, [.ref a_rows, .ref a_ofClauses])), (a_rows, .inl (cJ, 44, .inr (.inl rows_))), (a_ofClauses, .inl (cJ, 40, .inr (.inl ofClauses_))), (a_p1, .inr (5, [.ref a_p1_cells, .int p1_clauses_, u_p1_count_, u_p1_lettersOfA_, u_p1_lettersOfB_])), (a_p1_cells, .inl (cI, 320, .inl p1_cells_))] H → va_D A [(a_this, .inr (1, [.ref a_rows, .ref a_ofClauses])), (a_rows, .inl (cJ, 44, .inr (.inl rows_))), (a_ofClauses, .inl (cJ, 40, .inr (.inl ofClauses_))), (a_p1, .inr (5, [.ref a_p1_cells, .int p1_clauses_, u_p1_count_, u_p1_lettersOfA_, u_p1_lettersOfB_])), (a_p1_cells, .inl (cI, 320, .inl p1_cells_))] → va_S A s.heap H locs → lv_has ls 6 [(0, .ref a_this), (1, .ref a_p1), (2, .int x2_), (3, .int x3_), (4, .int x4_)] → W p l e ({ frames := 3, cells := 0, slots := 0, locals := 69 } : Room) s m args below meth c H locs 0 0 Q (F0 m 13 ls [])) (hf : f_X1_leastOf_55 rows_ x2_ x3_ x4_ k13 = some res) {H : Heap} {locs : List Loc} {ls : Array Slot} (hP : va_P G vwCl [(a_this, .inr (1, [.ref a_rows, .ref a_ofClauses])), (a_rows, .inl (cJ, 44, .inr (.inl rows_))), (a_ofClauses, .inl (cJ, 40, .inr (.inl ofClauses_))), (a_p1, .inr (5, [.ref a_p1_cells, .int p1_clauses_, u_p1_count_, u_p1_lettersOfA_, u_p1_lettersOfB_])), (a_p1_cells, .inl (cI, 320, .inl p1_cells_))] H) (hD : va_D A [(a_this, .inr (1, [.ref a_rows, .ref a_ofClauses])), (a_rows, .inl (cJ, 44, .inr (.inl rows_))), (a_ofClauses, .inl (cJ, 40, .inr (.inl ofClauses_))), (a_p1, .inr (5, [.ref a_p1_cells, .int p1_clauses_, u_p1_count_, u_p1_lettersOfA_, u_p1_lettersOfB_])), (a_p1_cells, .inl (cI, 320, .inl p1_cells_))]) (hS : va_S A s.heap H locs) (hl : lv_has ls 6 [(0, .ref a_this), (1, .ref a_p1), (2, .int x2_), (3, .int x3_), (4, .int x4_)]) : W p l e ({ frames := 3, cells := 0, slots := 0, locals := 69 } : Room) s m args below meth c H locs 0 0 Q (F0 m 55 ls []) := by
  obtain ⟨hx, hb, hml, hown, hts⟩ := id M
  unfold f_X1_leastOf_55 at hf
  obtain ⟨x4_1, ex4_1, hf⟩ := oL_e hf
  refine lv_iinc (v := x4_1) (lv' := [(4, .int x4_1), (0, .ref a_this), (1, .ref a_p1), (2, .int x2_), (3, .int x3_)]) hx hb dX1_leastOf_55 hl (k := 4) rfl (by rw [← ex4_1]; rfl) (by decide) rfl (fun ls hl => ?_)
  refine lv_goto (tgt := 13) hx hb dX1_leastOf_58 (by decide) ?_
  exact hk13 _ _ _ _ hf hP hD hS (lv_sub hl [1, 2, 3, 4, 0] rfl)
set_option maxHeartbeats 4000000 in
set_option maxRecDepth 100000 in
theorem wb_X1_leastOf_13 {p : Program} {l : Launch} {e : Env} {s : State} {m : MethodId} {args : Array Value} {below : List Frame} {meth : Method} {c : Code} {Q : State → Prop} {A : Nat → Prop} {G : va_G} {cI cJ cZ cO : ClassId} {tS : Nat} (a_this : Nat) (a_rows : Nat) (a_ofClauses : Nat) (a_p1 : Nat) (a_p1_cells : Nat) (u_p1_count_ : Value) (u_p1_lettersOfA_ : Value) (u_p1_lettersOfB_ : Value) (p1_clauses_ : Int32) (p1_cells_ : (Nat → Int32)) (hA : ∀ q : Nat, s.heap.size ≤ q → A q) (hK : va_K G vwCl (xTY cI cJ cZ cO) s) (hZ : xST tS A s) (M : CallFix p m c cX1_leastOf 6 s args wsX1_leastOf RX1) (res : Int32 × (Nat → Int64) × (Nat → Int64)) (hR : RT_X1_leastOf p l e s m args below meth c Q A G cI cJ cZ cO a_this a_rows a_ofClauses a_p1 a_p1_cells u_p1_count_ u_p1_lettersOfA_ u_p1_lettersOfB_ p1_clauses_ p1_cells_ res) (ofClauses_ : (Nat → Int64))  (k13 : ((Nat → Int64) × Int32 × Int32 × Int32) → Option (Int32 × (Nat → Int64) × (Nat → Int64))) (hk13 : ∀ (rows_ : (Nat → Int64)) (x2_ : Int32) (x3_ : Int32) (x4_ : Int32), k13 (rows_, x2_, x3_, x4_) = some res → ∀ {H : Heap} {locs : List Loc} {ls : Array Slot}, va_P G vwCl [(a_this, .inr (1, [.ref a_rows, .ref a_ofClauses])), (a_rows, .inl (cJ, 44, .inr (.inl rows_))), (a_ofClauses, .inl (cJ, 40, .inr (.inl ofClauses_))), (a_p1, .inr (5, [.ref a_p1_cells, .int p1_clauses_, u_p1_count_, u_p1_lettersOfA_, u_p1_lettersOfB_])), (a_p1_cells, .inl (cI, 320, .inl p1_cells_))] H → va_D A [(a_this, .inr (1, [.ref a_rows, .ref a_ofClauses])), (a_rows, .inl (cJ, 44, .inr (.inl rows_))), (a_ofClauses, .inl (cJ, 40, .inr (.inl ofClauses_))), (a_p1, .inr (5, [.ref a_p1_cells, .int p1_clauses_, u_p1_count_, u_p1_lettersOfA_, u_p1_lettersOfB_])), (a_p1_cells, .inl (cI, 320, .inl p1_cells_))] → va_S A s.heap H locs → lv_has ls 6 [(0, .ref a_this), (1, .ref a_p1), (2, .int x2_), (3, .int x3_), (4, .int x4_)] → W p l e ({ frames := 3, cells := 0, slots := 0, locals := 69 } : Room) s m args below meth c H locs 0 0 Q (F0 m 13 ls [])) (rows_ : (Nat → Int64)) (x2_ : Int32) (x3_ : Int32) (x4_ : Int32) (hf : b_X1_leastOf_13 ofClauses_ p1_clauses_ k13 rows_ x2_ x3_ x4_ = some res) {H : Heap} {locs : List Loc} {ls : Array Slot} (hP : va_P G vwCl [(a_this, .inr (1, [.ref a_rows, .ref a_ofClauses])), (a_rows, .inl (cJ, 44, .inr (.inl rows_))), (a_ofClauses, .inl (cJ, 40, .inr (.inl ofClauses_))), (a_p1, .inr (5, [.ref a_p1_cells, .int p1_clauses_, u_p1_count_, u_p1_lettersOfA_, u_p1_lettersOfB_])), (a_p1_cells, .inl (cI, 320, .inl p1_cells_))] H) (hD : va_D A [(a_this, .inr (1, [.ref a_rows, .ref a_ofClauses])), (a_rows, .inl (cJ, 44, .inr (.inl rows_))), (a_ofClauses, .inl (cJ, 40, .inr (.inl ofClauses_))), (a_p1, .inr (5, [.ref a_p1_cells, .int p1_clauses_, u_p1_count_, u_p1_lettersOfA_, u_p1_lettersOfB_])), (a_p1_cells, .inl (cI, 320, .inl p1_cells_))]) (hS : va_S A s.heap H locs) (hl : lv_has ls 6 [(0, .ref a_this), (1, .ref a_p1), (2, .int x2_), (3, .int x3_), (4, .int x4_)]) : W p l e ({ frames := 3, cells := 0, slots := 0, locals := 69 } : Room) s m args below meth c H locs 0 0 Q (F0 m 13 ls []) := by
  obtain ⟨hx, hb, hml, hown, hts⟩ := id M
  unfold b_X1_leastOf_13 at hf
  refine lv_iload hx hb dX1_leastOf_13 (lv_at hl 4 rfl) ?_
  refine lv_iconst (v := (1 : Int32)) hx hb dX1_leastOf_15 (by decide) ?_
  refine lv_aload_n hx hb dX1_leastOf_16 rfl (lv_at hl 1 rfl) ?_
  refine xget M (C := RX5) (T := TX5) (N := 5) (ci := 5) (v := .int p1_clauses_) uw_X1_leastOf_X5 hK hP 3 rfl rfl 1 (by decide) fl_X1_leastOf_22 rfl rfl dX1_leastOf_17 ?_
  refine lv_ishl hx hb dX1_leastOf_20 ?_
  refine lv_icmp_ge (tgt := 61) hx hb dX1_leastOf_21 (by decide) (fun hc1 => ?_) (fun hc1 => ?_)
  · have hf := oI_t hc1 hf
    refine lv_iload_n hx hb dX1_leastOf_61 rfl (lv_at hl 2 rfl) ?_
    exact hR _ _ _ hf _ _ _ _ dX1_leastOf_62 hP hD hS
  · have hf := oI_f hc1 hf
    refine lv_aload_n hx hb dX1_leastOf_24 rfl (lv_at hl 0 rfl) ?_
    refine lv_iload hx hb dX1_leastOf_25 (lv_at hl 4 rfl) ?_
    obtain ⟨r2, rows_3, hq4, hf⟩ := oB2_e hf
    refine xci (wr := [(a_p1, .inr (5, [.ref a_p1_cells, .int p1_clauses_, u_p1_count_, u_p1_lettersOfA_, u_p1_lettersOfB_])), (a_p1_cells, .inl (cI, 320, .inl p1_cells_))]) (ws' := fun _ => [(a_this, .inr (1, [.ref a_rows, .ref a_ofClauses])), (a_rows, .inl (cJ, 44, .inr (.inl rows_3))), (a_ofClauses, .inl (cJ, 40, .inr (.inl ofClauses_))), (a_p1, .inr (5, [.ref a_p1_cells, .int p1_clauses_, u_p1_count_, u_p1_lettersOfA_, u_p1_lettersOfB_])), (a_p1_cells, .inl (cI, 320, .inl p1_cells_))]) hA hP hD hS (xrV (As := [.int x4_]) (rest := []) M hA hK hZ hP hD hS (c_X1_fillRow l G cI cJ cZ cO tS H.size a_this a_rows a_ofClauses ofClauses_ rows_ x4_ r2 rows_3 hq4) (cwV 1 hts gX1_leastOf_X1_fillRow rfl rfl rfl hd_X1_fillRow ⟨Nat.le_of_ble_eq_true rfl, Nat.le_of_ble_eq_true rfl⟩) [0, 1, 2] rfl rfl 0 rfl rfl rfl hl.1 rfl (Nat.le_of_ble_eq_true rfl) dX1_leastOf_27 ⟨Nat.le_of_ble_eq_true rfl, Nat.le_of_ble_eq_true rfl⟩) [0, 1, 2] [3, 4] [2, 3, 4, 0, 1] rfl rfl rfl rfl (fun _ => rfl) rfl (fun _ H locs hP hD hS => ?_)
    refine lv_istore (lv' := [(5, .int r2), (0, .ref a_this), (1, .ref a_p1), (2, .int x2_), (3, .int x3_), (4, .int x4_)]) hx hb dX1_leastOf_30 hl (by decide) rfl (fun ls hl => ?_)
    refine lv_iload hx hb dX1_leastOf_32 (lv_at hl 0 rfl) ?_
    refine lv_if_eq (tgt := 55) hx hb dX1_leastOf_34 (by decide) (fun hc5 => ?_) (fun hc5 => ?_)
    · have hf := oI_t hc5 hf
      exact w_X1_leastOf_55 a_this a_rows a_ofClauses a_p1 a_p1_cells u_p1_count_ u_p1_lettersOfA_ u_p1_lettersOfB_ p1_clauses_ p1_cells_ hA hK hZ M res hR rows_3 ofClauses_ x2_ x3_ x4_ k13 hk13 hf hP hD hS (lv_sub hl [1, 2, 3, 4, 5] rfl)
    · have hf := oI_f hc5 hf
      refine lv_iload hx hb dX1_leastOf_37 (lv_at hl 5 rfl) ?_
      obtain ⟨r6, hq7, hf⟩ := oB1_e hf
      refine xci (wr := [(a_this, .inr (1, [.ref a_rows, .ref a_ofClauses])), (a_rows, .inl (cJ, 44, .inr (.inl rows_3))), (a_ofClauses, .inl (cJ, 40, .inr (.inl ofClauses_))), (a_p1, .inr (5, [.ref a_p1_cells, .int p1_clauses_, u_p1_count_, u_p1_lettersOfA_, u_p1_lettersOfB_])), (a_p1_cells, .inl (cI, 320, .inl p1_cells_))]) (ws' := fun _ => [(a_this, .inr (1, [.ref a_rows, .ref a_ofClauses])), (a_rows, .inl (cJ, 44, .inr (.inl rows_3))), (a_ofClauses, .inl (cJ, 40, .inr (.inl ofClauses_))), (a_p1, .inr (5, [.ref a_p1_cells, .int p1_clauses_, u_p1_count_, u_p1_lettersOfA_, u_p1_lettersOfB_])), (a_p1_cells, .inl (cI, 320, .inl p1_cells_))]) hA hP hD hS (xrS (As := [.int x4_]) (rest := []) M hA hK hZ hP hD hS (c_J6_bitCount_0f7a4 l G cI cJ cZ cO tS H.size x4_ r6 hq7) (va_cwS 1 hts gX1_leastOf_J6_bitCount_0f7a4 rfl rfl rfl hd_J6_bitCount_0f7a4 ⟨Nat.le_of_ble_eq_true rfl, Nat.le_of_ble_eq_true rfl⟩) [] rfl rfl rfl hl.1 rfl (Nat.le_of_ble_eq_true rfl) dX1_leastOf_39 ⟨Nat.le_of_ble_eq_true rfl, Nat.le_of_ble_eq_true rfl⟩) [] [0, 1, 2, 3, 4] [0, 1, 2, 3, 4] rfl rfl rfl rfl (fun _ => rfl) rfl (fun _ H locs hP hD hS => ?_)
      refine lv_iload_n hx hb dX1_leastOf_42 rfl (lv_at hl 4 rfl) ?_
      refine lv_icmp_ge (tgt := 55) hx hb dX1_leastOf_43 (by decide) (fun hc8 => ?_) (fun hc8 => ?_)
      · have hf := oI_t hc8 hf
        exact w_X1_leastOf_55 a_this a_rows a_ofClauses a_p1 a_p1_cells u_p1_count_ u_p1_lettersOfA_ u_p1_lettersOfB_ p1_clauses_ p1_cells_ hA hK hZ M res hR rows_3 ofClauses_ x2_ x3_ x4_ k13 hk13 hf hP hD hS (lv_sub hl [1, 2, 3, 4, 5] rfl)
      · have hf := oI_f hc8 hf
        refine lv_iload hx hb dX1_leastOf_46 (lv_at hl 5 rfl) ?_
        refine lv_istore_n (lv' := [(2, .int x4_), (5, .int r2), (0, .ref a_this), (1, .ref a_p1), (3, .int x3_), (4, .int x4_)]) hx hb dX1_leastOf_48 rfl hl (by decide) rfl (fun ls hl => ?_)
        refine lv_iload hx hb dX1_leastOf_49 (lv_at hl 5 rfl) ?_
        obtain ⟨r9, hq10, hf⟩ := oB1_e hf
        refine xci (wr := [(a_this, .inr (1, [.ref a_rows, .ref a_ofClauses])), (a_rows, .inl (cJ, 44, .inr (.inl rows_3))), (a_ofClauses, .inl (cJ, 40, .inr (.inl ofClauses_))), (a_p1, .inr (5, [.ref a_p1_cells, .int p1_clauses_, u_p1_count_, u_p1_lettersOfA_, u_p1_lettersOfB_])), (a_p1_cells, .inl (cI, 320, .inl p1_cells_))]) (ws' := fun _ => [(a_this, .inr (1, [.ref a_rows, .ref a_ofClauses])), (a_rows, .inl (cJ, 44, .inr (.inl rows_3))), (a_ofClauses, .inl (cJ, 40, .inr (.inl ofClauses_))), (a_p1, .inr (5, [.ref a_p1_cells, .int p1_clauses_, u_p1_count_, u_p1_lettersOfA_, u_p1_lettersOfB_])), (a_p1_cells, .inl (cI, 320, .inl p1_cells_))]) hA hP hD hS (xrS (As := [.int x4_]) (rest := []) M hA hK hZ hP hD hS (c_J6_bitCount_0f7a4 l G cI cJ cZ cO tS H.size x4_ r9 hq10) (va_cwS 1 hts gX1_leastOf_J6_bitCount_0f7a4 rfl rfl rfl hd_J6_bitCount_0f7a4 ⟨Nat.le_of_ble_eq_true rfl, Nat.le_of_ble_eq_true rfl⟩) [] rfl rfl rfl hl.1 rfl (Nat.le_of_ble_eq_true rfl) dX1_leastOf_51 ⟨Nat.le_of_ble_eq_true rfl, Nat.le_of_ble_eq_true rfl⟩) [] [0, 1, 2, 3, 4] [0, 1, 2, 3, 4] rfl rfl rfl rfl (fun _ => rfl) rfl (fun _ H locs hP hD hS => ?_)
        refine lv_istore_n (lv' := [(3, .int r9), (2, .int x4_), (5, .int r2), (0, .ref a_this), (1, .ref a_p1), (4, .int x4_)]) hx hb dX1_leastOf_54 rfl hl (by decide) rfl (fun ls hl => ?_)
        exact w_X1_leastOf_55 a_this a_rows a_ofClauses a_p1 a_p1_cells u_p1_count_ u_p1_lettersOfA_ u_p1_lettersOfB_ p1_clauses_ p1_cells_ hA hK hZ M res hR rows_3 ofClauses_ x4_ r9 x4_ k13 hk13 hf hP hD hS (lv_sub hl [3, 4, 1, 0, 5] rfl)
set_option maxHeartbeats 4000000 in
set_option maxRecDepth 100000 in
theorem wl_X1_leastOf_13 {p : Program} {l : Launch} {e : Env} {s : State} {m : MethodId} {args : Array Value} {below : List Frame} {meth : Method} {c : Code} {Q : State → Prop} {A : Nat → Prop} {G : va_G} {cI cJ cZ cO : ClassId} {tS : Nat} (a_this : Nat) (a_rows : Nat) (a_ofClauses : Nat) (a_p1 : Nat) (a_p1_cells : Nat) (u_p1_count_ : Value) (u_p1_lettersOfA_ : Value) (u_p1_lettersOfB_ : Value) (p1_clauses_ : Int32) (p1_cells_ : (Nat → Int32)) (hA : ∀ q : Nat, s.heap.size ≤ q → A q) (hK : va_K G vwCl (xTY cI cJ cZ cO) s) (hZ : xST tS A s) (M : CallFix p m c cX1_leastOf 6 s args wsX1_leastOf RX1) (res : Int32 × (Nat → Int64) × (Nat → Int64)) (hR : RT_X1_leastOf p l e s m args below meth c Q A G cI cJ cZ cO a_this a_rows a_ofClauses a_p1 a_p1_cells u_p1_count_ u_p1_lettersOfA_ u_p1_lettersOfB_ p1_clauses_ p1_cells_ res) (ofClauses_ : (Nat → Int64))  (n : Nat) : ∀ (rows_ : (Nat → Int64)) (x2_ : Int32) (x3_ : Int32) (x4_ : Int32), oF (fun k z => b_X1_leastOf_13 ofClauses_ p1_clauses_ k z.1 z.2.1 z.2.2.1 z.2.2.2) n (rows_, x2_, x3_, x4_) = some res → ∀ {H : Heap} {locs : List Loc} {ls : Array Slot}, va_P G vwCl [(a_this, .inr (1, [.ref a_rows, .ref a_ofClauses])), (a_rows, .inl (cJ, 44, .inr (.inl rows_))), (a_ofClauses, .inl (cJ, 40, .inr (.inl ofClauses_))), (a_p1, .inr (5, [.ref a_p1_cells, .int p1_clauses_, u_p1_count_, u_p1_lettersOfA_, u_p1_lettersOfB_])), (a_p1_cells, .inl (cI, 320, .inl p1_cells_))] H → va_D A [(a_this, .inr (1, [.ref a_rows, .ref a_ofClauses])), (a_rows, .inl (cJ, 44, .inr (.inl rows_))), (a_ofClauses, .inl (cJ, 40, .inr (.inl ofClauses_))), (a_p1, .inr (5, [.ref a_p1_cells, .int p1_clauses_, u_p1_count_, u_p1_lettersOfA_, u_p1_lettersOfB_])), (a_p1_cells, .inl (cI, 320, .inl p1_cells_))] → va_S A s.heap H locs → lv_has ls 6 [(0, .ref a_this), (1, .ref a_p1), (2, .int x2_), (3, .int x3_), (4, .int x4_)] → W p l e ({ frames := 3, cells := 0, slots := 0, locals := 69 } : Room) s m args below meth c H locs 0 0 Q (F0 m 13 ls []) := by
  induction n with
  | zero => intro rows_ x2_ x3_ x4_ hf; cases hf
  | succ n ih =>
    intro rows_ x2_ x3_ x4_ hf H locs ls hP hD hS hl
    exact wb_X1_leastOf_13 a_this a_rows a_ofClauses a_p1 a_p1_cells u_p1_count_ u_p1_lettersOfA_ u_p1_lettersOfB_ p1_clauses_ p1_cells_ hA hK hZ M res hR ofClauses_  _ ih rows_ x2_ x3_ x4_ hf hP hD hS hl
set_option maxHeartbeats 4000000 in
set_option maxRecDepth 100000 in
theorem w_X1_leastOf_0 {p : Program} {l : Launch} {e : Env} {s : State} {m : MethodId} {args : Array Value} {below : List Frame} {meth : Method} {c : Code} {Q : State → Prop} {A : Nat → Prop} {G : va_G} {cI cJ cZ cO : ClassId} {tS : Nat} (a_this : Nat) (a_rows : Nat) (a_ofClauses : Nat) (a_p1 : Nat) (a_p1_cells : Nat) (u_p1_count_ : Value) (u_p1_lettersOfA_ : Value) (u_p1_lettersOfB_ : Value) (p1_clauses_ : Int32) (p1_cells_ : (Nat → Int32)) (hA : ∀ q : Nat, s.heap.size ≤ q → A q) (hK : va_K G vwCl (xTY cI cJ cZ cO) s) (hZ : xST tS A s) (M : CallFix p m c cX1_leastOf 6 s args wsX1_leastOf RX1) (res : Int32 × (Nat → Int64) × (Nat → Int64)) (hR : RT_X1_leastOf p l e s m args below meth c Q A G cI cJ cZ cO a_this a_rows a_ofClauses a_p1 a_p1_cells u_p1_count_ u_p1_lettersOfA_ u_p1_lettersOfB_ p1_clauses_ p1_cells_ res) (rows_ : (Nat → Int64)) (ofClauses_ : (Nat → Int64))  (hf : f_X1_leastOf rows_ ofClauses_ p1_clauses_ p1_cells_ = some res) {H : Heap} {locs : List Loc} {ls : Array Slot} (hP : va_P G vwCl [(a_this, .inr (1, [.ref a_rows, .ref a_ofClauses])), (a_rows, .inl (cJ, 44, .inr (.inl rows_))), (a_ofClauses, .inl (cJ, 40, .inr (.inl ofClauses_))), (a_p1, .inr (5, [.ref a_p1_cells, .int p1_clauses_, u_p1_count_, u_p1_lettersOfA_, u_p1_lettersOfB_])), (a_p1_cells, .inl (cI, 320, .inl p1_cells_))] H) (hD : va_D A [(a_this, .inr (1, [.ref a_rows, .ref a_ofClauses])), (a_rows, .inl (cJ, 44, .inr (.inl rows_))), (a_ofClauses, .inl (cJ, 40, .inr (.inl ofClauses_))), (a_p1, .inr (5, [.ref a_p1_cells, .int p1_clauses_, u_p1_count_, u_p1_lettersOfA_, u_p1_lettersOfB_])), (a_p1_cells, .inl (cI, 320, .inl p1_cells_))]) (hS : va_S A s.heap H locs) (hl : lv_has ls 6 [(0, .ref a_this), (1, .ref a_p1)]) : W p l e ({ frames := 3, cells := 0, slots := 0, locals := 69 } : Room) s m args below meth c H locs 0 0 Q (F0 m 0 ls []) := by
  obtain ⟨hx, hb, hml, hown, hts⟩ := id M
  unfold f_X1_leastOf at hf
  refine lv_aload_n hx hb dX1_leastOf_0 rfl (lv_at hl 0 rfl) ?_
  refine lv_aload_n hx hb dX1_leastOf_1 rfl (lv_at hl 1 rfl) ?_
  obtain ⟨rows_1, ofClauses_2, hq3, hf⟩ := oB2_e hf
  refine xcv (wr := []) (ws' := fun _ => [(a_this, .inr (1, [.ref a_rows, .ref a_ofClauses])), (a_rows, .inl (cJ, 44, .inr (.inl rows_1))), (a_ofClauses, .inl (cJ, 40, .inr (.inl ofClauses_2))), (a_p1, .inr (5, [.ref a_p1_cells, .int p1_clauses_, u_p1_count_, u_p1_lettersOfA_, u_p1_lettersOfB_])), (a_p1_cells, .inl (cI, 320, .inl p1_cells_))]) hA hP hD hS (xrV (As := [.ref a_p1]) (rest := []) M hA hK hZ hP hD hS (c_X1_readClauses l G cI cJ cZ cO tS H.size a_this a_rows a_ofClauses a_p1 a_p1_cells (u_p1_count_) (u_p1_lettersOfA_) (u_p1_lettersOfB_) p1_clauses_ p1_cells_ rows_ ofClauses_ rows_1 ofClauses_2 hq3) (cwV 1 hts gX1_leastOf_X1_readClauses rfl rfl rfl hd_X1_readClauses ⟨Nat.le_of_ble_eq_true rfl, Nat.le_of_ble_eq_true rfl⟩) [0, 1, 2, 3, 4] rfl rfl 0 rfl rfl rfl hl.1 rfl (Nat.le_of_ble_eq_true rfl) dX1_leastOf_2 ⟨Nat.le_of_ble_eq_true rfl, Nat.le_of_ble_eq_true rfl⟩) [0, 1, 2, 3, 4] [] [0, 1, 2, 3, 4] rfl rfl rfl rfl (fun _ => rfl) rfl (fun _ H locs hP hD hS => ?_)
  refine lv_iconst (v := (-1 : Int32)) hx hb dX1_leastOf_5 (by decide) ?_
  refine lv_istore_n (lv' := [(2, .int (-1 : Int32)), (0, .ref a_this), (1, .ref a_p1)]) hx hb dX1_leastOf_6 rfl hl (by decide) rfl (fun ls hl => ?_)
  refine lv_bipush (v := (11 : Int32)) hx hb dX1_leastOf_7 (by decide) ?_
  refine lv_istore_n (lv' := [(3, .int (11 : Int32)), (2, .int (-1 : Int32)), (0, .ref a_this), (1, .ref a_p1)]) hx hb dX1_leastOf_9 rfl hl (by decide) rfl (fun ls hl => ?_)
  refine lv_iconst (v := (1 : Int32)) hx hb dX1_leastOf_10 (by decide) ?_
  refine lv_istore (lv' := [(4, .int (1 : Int32)), (3, .int (11 : Int32)), (2, .int (-1 : Int32)), (0, .ref a_this), (1, .ref a_p1)]) hx hb dX1_leastOf_11 hl (by decide) rfl (fun ls hl => ?_)
  exact wl_X1_leastOf_13 a_this a_rows a_ofClauses a_p1 a_p1_cells u_p1_count_ u_p1_lettersOfA_ u_p1_lettersOfB_ p1_clauses_ p1_cells_ hA hK hZ M res hR ofClauses_2  xN rows_1 (-1 : Int32) (11 : Int32) (1 : Int32) hf hP hD hS (lv_sub hl [3, 4, 2, 1, 0] rfl)
set_option maxHeartbeats 4000000 in
set_option maxRecDepth 100000 in
theorem c_X1_leastOf (l : Launch) (G : va_G) (cI cJ cZ cO : ClassId) (tS sz : Nat) (a_this : Nat) (a_rows : Nat) (a_ofClauses : Nat) (a_p1 : Nat) (a_p1_cells : Nat) (u_p1_count_ : Value) (u_p1_lettersOfA_ : Value) (u_p1_lettersOfB_ : Value) (p1_clauses_ : Int32) (p1_cells_ : (Nat → Int32)) (rows_ : (Nat → Int64)) (ofClauses_ : (Nat → Int64))  (v_ : Int32) (o_rows_ : (Nat → Int64)) (o_ofClauses_ : (Nat → Int64)) (hf : f_X1_leastOf rows_ ofClauses_ p1_clauses_ p1_cells_ = some (v_, o_rows_, o_ofClauses_)) : Met l yX1_leastOf wsX1_leastOf ({ frames := 3, cells := 0, slots := 0, locals := 69 } : Room) (xPre G (xTY cI cJ cZ cO) tS [(a_this, .inr (1, [.ref a_rows, .ref a_ofClauses])), (a_rows, .inl (cJ, 44, .inr (.inl rows_))), (a_ofClauses, .inl (cJ, 40, .inr (.inl ofClauses_))), (a_p1, .inr (5, [.ref a_p1_cells, .int p1_clauses_, u_p1_count_, u_p1_lettersOfA_, u_p1_lettersOfB_])), (a_p1_cells, .inl (cI, 320, .inl p1_cells_))] sz [.ref a_this, .ref a_p1]) (xQi G [(a_this, .inr (1, [.ref a_rows, .ref a_ofClauses])), (a_rows, .inl (cJ, 44, .inr (.inl rows_))), (a_ofClauses, .inl (cJ, 40, .inr (.inl ofClauses_))), (a_p1, .inr (5, [.ref a_p1_cells, .int p1_clauses_, u_p1_count_, u_p1_lettersOfA_, u_p1_lettersOfB_])), (a_p1_cells, .inl (cI, 320, .inl p1_cells_))] sz (fun _ : Unit => [(a_this, .inr (1, [.ref a_rows, .ref a_ofClauses])), (a_rows, .inl (cJ, 44, .inr (.inl o_rows_))), (a_ofClauses, .inl (cJ, 40, .inr (.inl o_ofClauses_))), (a_p1, .inr (5, [.ref a_p1_cells, .int p1_clauses_, u_p1_count_, u_p1_lettersOfA_, u_p1_lettersOfB_])), (a_p1_cells, .inl (cI, 320, .inl p1_cells_))]) v_) 0 0 (va_A [(a_this, .inr (1, [.ref a_rows, .ref a_ofClauses])), (a_rows, .inl (cJ, 44, .inr (.inl rows_))), (a_ofClauses, .inl (cJ, 40, .inr (.inl ofClauses_))), (a_p1, .inr (5, [.ref a_p1_cells, .int p1_clauses_, u_p1_count_, u_p1_lettersOfA_, u_p1_lettersOfB_])), (a_p1_cells, .inl (cI, 320, .inl p1_cells_))] sz) := by
  refine xMet (cc := cX1_leastOf) (maxL := 6) (ret := (some .int)) (own := RX1) (by decide +kernel) rfl rfl (Nat.le_of_ble_eq_true rfl) rfl ?_
  intro p e s m below meth c ls M hr hlk hin hsz hA hK hZ hP hD hl
  refine w_X1_leastOf_0 a_this a_rows a_ofClauses a_p1 a_p1_cells u_p1_count_ u_p1_lettersOfA_ u_p1_lettersOfB_ p1_clauses_ p1_cells_ hA hK hZ M (v_, o_rows_, o_ofClauses_) (fun v_' o_rows_' o_ofClauses_' hres H locs ls pc hd hP hD hS => ?_) rows_ ofClauses_  hf hP hD va_S.rf hl
  cases hres
  exact xreti (W1 := fun _ : Unit => [(a_this, .inr (1, [.ref a_rows, .ref a_ofClauses])), (a_rows, .inl (cJ, 44, .inr (.inl o_rows_))), (a_ofClauses, .inl (cJ, 40, .inr (.inl o_ofClauses_))), (a_p1, .inr (5, [.ref a_p1_cells, .int p1_clauses_, u_p1_count_, u_p1_lettersOfA_, u_p1_lettersOfB_])), (a_p1_cells, .inl (cI, 320, .inl p1_cells_))]) M hr hlk () hP hD hS hd
/-! BetweenBoth$Marks.add(I)V -/
theorem uw_X2_add_X2 : ∀ w ∈ u_ws RX2 TX2 2, w ∈ wsX2_add := by decide +kernel
theorem fl_X2_add_9 : Cond.fieldLink RX2 9 "BetweenBoth$Marks" (TX2 0).2.1 (TX2 0).2.2.1 ∈ wsX2_add := by decide +kernel
theorem fl_X2_add_13 : Cond.fieldLink RX2 13 "BetweenBoth$Marks" (TX2 1).2.1 (TX2 1).2.2.1 ∈ wsX2_add := by decide +kernel
theorem ac_X2_add_17 : Cond.methodLink RX2 17 arraycopyName ∈ wsX2_add ∧ Cond.native arraycopyName ∈ wsX2_add ∧ Cond.static arraycopyName ∈ wsX2_add ∧ Cond.initialized "java/lang/System" ∈ wsX2_add := by decide +kernel
theorem hd_X2_add : yX2_add.cls = RX2 ∧ yX2_add.cls ≠ "java/lang/invoke/MethodHandle" ∧ yX2_add.cls ≠ "java/lang/invoke/VarHandle" ∧ (parseMethodDescriptor yX2_add.desc).map (fun d => d.parameters.length) = some 1 := by decide +kernel
def RT_X2_add (p : Program) (l : Launch) (e : Env) (s : State) (m : MethodId) (args : Array Value) (below : List Frame) (meth : Method) (c : Code) (Q : State → Prop) (A : Nat → Prop) (G : va_G) (cI cJ cZ cO : ClassId) (a_this : Nat) (a_before : Nat) (res : (Nat → Int32) × Int32) : Prop := ∀ (o_before_ : (Nat → Int32)) (o_count_ : Int32), some (o_before_, o_count_) = some res → ∀ (H : Heap) (locs : List Loc) (ls : Array Slot) (pc : Nat), decode cX2_add pc = .ok (.return_, 1) → va_P G vwCl [(a_this, .inr (2, [.ref a_before, .int o_count_])), (a_before, .inl (cI, 8, .inl o_before_))] H → va_D A [(a_this, .inr (2, [.ref a_before, .int o_count_])), (a_before, .inl (cI, 8, .inl o_before_))] → va_S A s.heap H locs → W p l e ({ frames := 1, cells := 0, slots := 0, locals := 26 } : Room) s m args below meth c H locs 0 0 Q (F0 m pc ls [])
set_option maxHeartbeats 4000000 in
set_option maxRecDepth 100000 in
theorem w_X2_add_34 {p : Program} {l : Launch} {e : Env} {s : State} {m : MethodId} {args : Array Value} {below : List Frame} {meth : Method} {c : Code} {Q : State → Prop} {A : Nat → Prop} {G : va_G} {cI cJ cZ cO : ClassId} {tS : Nat} (a_this : Nat) (a_before : Nat) (hA : ∀ q : Nat, s.heap.size ≤ q → A q) (hK : va_K G vwCl (xTY cI cJ cZ cO) s) (hZ : xST tS A s) (M : CallFix p m c cX2_add 2 s args wsX2_add RX2) (res : (Nat → Int32) × Int32) (hR : RT_X2_add p l e s m args below meth c Q A G cI cJ cZ cO a_this a_before res) (count_ : Int32) (before_ : (Nat → Int32)) (x1_ : Int32)  (hf : f_X2_add_34 count_ before_ x1_ = some res) {H : Heap} {locs : List Loc} {ls : Array Slot} (hP : va_P G vwCl [(a_this, .inr (2, [.ref a_before, .int count_])), (a_before, .inl (cI, 8, .inl before_))] H) (hD : va_D A [(a_this, .inr (2, [.ref a_before, .int count_])), (a_before, .inl (cI, 8, .inl before_))]) (hS : va_S A s.heap H locs) (hl : lv_has ls 2 [(0, .ref a_this), (1, .int x1_)]) : W p l e ({ frames := 1, cells := 0, slots := 0, locals := 26 } : Room) s m args below meth c H locs 0 0 Q (F0 m 34 ls []) := by
  obtain ⟨hx, hb, hml, hown, hts⟩ := id M
  unfold f_X2_add_34 at hf
  refine lv_aload_n hx hb dX2_add_34 rfl (lv_at hl 0 rfl) ?_
  refine xget M (C := RX2) (T := TX2) (N := 2) (ci := 2) (v := .ref a_before) uw_X2_add_X2 hK hP 0 rfl rfl 0 (by decide) fl_X2_add_9 rfl rfl dX2_add_35 ?_
  refine lv_aload_n hx hb dX2_add_38 rfl (lv_at hl 0 rfl) ?_
  refine xget M (C := RX2) (T := TX2) (N := 2) (ci := 2) (v := .int count_) uw_X2_add_X2 hK hP 0 rfl rfl 1 (by decide) fl_X2_add_13 rfl rfl dX2_add_39 ?_
  refine lv_iload_n hx hb dX2_add_42 rfl (lv_at hl 1 rfl) ?_
  obtain ⟨j1, hj1, hij1, hf⟩ := oA_e hf
  obtain ⟨before_2, ebefore_2, hf⟩ := oL_e hf
  refine xiast M hK hP hD hS 1 0 rfl rfl hj1 hij1 ebefore_2 [(a_this, .inr (2, [.ref a_before, .int count_])), (a_before, .inl (cI, 8, .inl before_2))] rfl dX2_add_43 (fun H locs hP hD hS => ?_)
  refine lv_aload_n hx hb dX2_add_44 rfl (lv_at hl 0 rfl) ?_
  refine lv_dup hx hb dX2_add_45 rfl ?_
  refine xget M (C := RX2) (T := TX2) (N := 2) (ci := 2) (v := .int count_) uw_X2_add_X2 hK hP 0 rfl rfl 1 (by decide) fl_X2_add_13 rfl rfl dX2_add_46 ?_
  refine lv_iconst (v := (1 : Int32)) hx hb dX2_add_49 (by decide) ?_
  refine lv_iadd hx hb dX2_add_50 ?_
  obtain ⟨count_3, ecount_3, hf⟩ := oL_e hf
  refine xtopi ecount_3 ?_
  refine xput M (C := RX2) (T := TX2) (N := 2) (ci := 2) (v := .int count_3) uw_X2_add_X2 tyX2 tyX2_ok nmX2 hK hP hD hS 0 rfl rfl 1 (by decide) fl_X2_add_13 rfl rfl rfl rfl (Nat.le_of_ble_eq_true rfl) [(a_this, .inr (2, [.ref a_before, .int count_3])), (a_before, .inl (cI, 8, .inl before_2))] rfl dX2_add_51 (fun H locs hP hD hS => ?_)
  exact hR _ _ hf _ _ _ _ dX2_add_54 hP hD hS
set_option maxHeartbeats 4000000 in
set_option maxRecDepth 100000 in
theorem w_X2_add_0 {p : Program} {l : Launch} {e : Env} {s : State} {m : MethodId} {args : Array Value} {below : List Frame} {meth : Method} {c : Code} {Q : State → Prop} {A : Nat → Prop} {G : va_G} {cI cJ cZ cO : ClassId} {tS : Nat} (a_this : Nat) (a_before : Nat) (hA : ∀ q : Nat, s.heap.size ≤ q → A q) (hK : va_K G vwCl (xTY cI cJ cZ cO) s) (hZ : xST tS A s) (M : CallFix p m c cX2_add 2 s args wsX2_add RX2) (res : (Nat → Int32) × Int32) (hR : RT_X2_add p l e s m args below meth c Q A G cI cJ cZ cO a_this a_before res) (count_ : Int32) (before_ : (Nat → Int32)) (x1_ : Int32) (hf : f_X2_add count_ before_ x1_ = some res) {H : Heap} {locs : List Loc} {ls : Array Slot} (hP : va_P G vwCl [(a_this, .inr (2, [.ref a_before, .int count_])), (a_before, .inl (cI, 8, .inl before_))] H) (hD : va_D A [(a_this, .inr (2, [.ref a_before, .int count_])), (a_before, .inl (cI, 8, .inl before_))]) (hS : va_S A s.heap H locs) (hl : lv_has ls 2 [(0, .ref a_this), (1, .int x1_)]) : W p l e ({ frames := 1, cells := 0, slots := 0, locals := 26 } : Room) s m args below meth c H locs 0 0 Q (F0 m 0 ls []) := by
  obtain ⟨hx, hb, hml, hown, hts⟩ := id M
  unfold f_X2_add at hf
  refine lv_aload_n hx hb dX2_add_0 rfl (lv_at hl 0 rfl) ?_
  refine xget M (C := RX2) (T := TX2) (N := 2) (ci := 2) (v := .int count_) uw_X2_add_X2 hK hP 0 rfl rfl 1 (by decide) fl_X2_add_13 rfl rfl dX2_add_1 ?_
  refine lv_bipush (v := (8 : Int32)) hx hb dX2_add_4 (by decide) ?_
  refine lv_icmp_ne (tgt := 34) hx hb dX2_add_6 (by decide) (fun hc1 => ?_) (fun hc1 => ?_)
  · have hf := oI_f hc1 hf
    exact w_X2_add_34 a_this a_before hA hK hZ M res hR count_ before_ x1_  hf hP hD hS (lv_sub hl [0, 1] rfl)
  · have hf := oI_t hc1 hf
    refine lv_aload_n hx hb dX2_add_9 rfl (lv_at hl 0 rfl) ?_
    refine xget M (C := RX2) (T := TX2) (N := 2) (ci := 2) (v := .ref a_before) uw_X2_add_X2 hK hP 0 rfl rfl 0 (by decide) fl_X2_add_9 rfl rfl dX2_add_10 ?_
    refine lv_iconst (v := (1 : Int32)) hx hb dX2_add_13 (by decide) ?_
    refine lv_aload_n hx hb dX2_add_14 rfl (lv_at hl 0 rfl) ?_
    refine xget M (C := RX2) (T := TX2) (N := 2) (ci := 2) (v := .ref a_before) uw_X2_add_X2 hK hP 0 rfl rfl 0 (by decide) fl_X2_add_9 rfl rfl dX2_add_15 ?_
    refine lv_iconst (v := (0 : Int32)) hx hb dX2_add_18 (by decide) ?_
    refine lv_bipush (v := (7 : Int32)) hx hb dX2_add_19 (by decide) ?_
    obtain ⟨before_2, ebefore_2, hc3, hf⟩ := oC_e hf
    refine xcopy M (hml.trans hl.1.symm) (hts _ ac_X2_add_17.1) (hts _ ac_X2_add_17.2.1) (hts _ ac_X2_add_17.2.2.1) (hts _ ac_X2_add_17.2.2.2) hK hP hD hS 1 1 rfl rfl hc3 ebefore_2 (Nat.le_of_ble_eq_true rfl) (Nat.le_of_ble_eq_true rfl) [(a_this, .inr (2, [.ref a_before, .int count_])), (a_before, .inl (cI, 8, .inl before_2))] rfl dX2_add_21 (fun H locs hP hD hS => ?_)
    refine lv_aload_n hx hb dX2_add_24 rfl (lv_at hl 0 rfl) ?_
    refine lv_dup hx hb dX2_add_25 rfl ?_
    refine xget M (C := RX2) (T := TX2) (N := 2) (ci := 2) (v := .int count_) uw_X2_add_X2 hK hP 0 rfl rfl 1 (by decide) fl_X2_add_13 rfl rfl dX2_add_26 ?_
    refine lv_iconst (v := (1 : Int32)) hx hb dX2_add_29 (by decide) ?_
    refine lv_isub hx hb dX2_add_30 ?_
    obtain ⟨count_4, ecount_4, hf⟩ := oL_e hf
    refine xtopi ecount_4 ?_
    refine xput M (C := RX2) (T := TX2) (N := 2) (ci := 2) (v := .int count_4) uw_X2_add_X2 tyX2 tyX2_ok nmX2 hK hP hD hS 0 rfl rfl 1 (by decide) fl_X2_add_13 rfl rfl rfl rfl (Nat.le_of_ble_eq_true rfl) [(a_this, .inr (2, [.ref a_before, .int count_4])), (a_before, .inl (cI, 8, .inl before_2))] rfl dX2_add_31 (fun H locs hP hD hS => ?_)
    exact w_X2_add_34 a_this a_before hA hK hZ M res hR count_4 before_2 x1_  hf hP hD hS (lv_sub hl [0, 1] rfl)
set_option maxHeartbeats 4000000 in
set_option maxRecDepth 100000 in
theorem c_X2_add (l : Launch) (G : va_G) (cI cJ cZ cO : ClassId) (tS sz : Nat) (a_this : Nat) (a_before : Nat) (count_ : Int32) (before_ : (Nat → Int32)) (x1_ : Int32) (o_before_ : (Nat → Int32)) (o_count_ : Int32) (hf : f_X2_add count_ before_ x1_ = some (o_before_, o_count_)) : Met l yX2_add wsX2_add ({ frames := 1, cells := 0, slots := 0, locals := 26 } : Room) (xPre G (xTY cI cJ cZ cO) tS [(a_this, .inr (2, [.ref a_before, .int count_])), (a_before, .inl (cI, 8, .inl before_))] sz [.ref a_this, .int x1_]) (xQv G [(a_this, .inr (2, [.ref a_before, .int count_])), (a_before, .inl (cI, 8, .inl before_))] sz (fun _ : Unit => [(a_this, .inr (2, [.ref a_before, .int o_count_])), (a_before, .inl (cI, 8, .inl o_before_))])) 0 0 (va_A [(a_this, .inr (2, [.ref a_before, .int count_])), (a_before, .inl (cI, 8, .inl before_))] sz) := by
  refine xMet (cc := cX2_add) (maxL := 2) (ret := none) (own := RX2) (by decide +kernel) rfl rfl (Nat.le_of_ble_eq_true rfl) rfl ?_
  intro p e s m below meth c ls M hr hlk hin hsz hA hK hZ hP hD hl
  refine w_X2_add_0 a_this a_before hA hK hZ M (o_before_, o_count_) (fun o_before_' o_count_' hres H locs ls pc hd hP hD hS => ?_) count_ before_ x1_ hf hP hD va_S.rf hl
  cases hres
  exact xretv (W1 := fun _ : Unit => [(a_this, .inr (2, [.ref a_before, .int o_count_])), (a_before, .inl (cI, 8, .inl o_before_))]) M hr hlk () hP hD hS hd
/-! BetweenBoth$Marks.takeLatest()I -/
theorem uw_X2_takeLatest_X2 : ∀ w ∈ u_ws RX2 TX2 2, w ∈ wsX2_takeLatest := by decide +kernel
theorem fl_X2_takeLatest_13 : Cond.fieldLink RX2 13 "BetweenBoth$Marks" (TX2 1).2.1 (TX2 1).2.2.1 ∈ wsX2_takeLatest := by decide +kernel
theorem fl_X2_takeLatest_9 : Cond.fieldLink RX2 9 "BetweenBoth$Marks" (TX2 0).2.1 (TX2 0).2.2.1 ∈ wsX2_takeLatest := by decide +kernel
theorem hd_X2_takeLatest : yX2_takeLatest.cls = RX2 ∧ yX2_takeLatest.cls ≠ "java/lang/invoke/MethodHandle" ∧ yX2_takeLatest.cls ≠ "java/lang/invoke/VarHandle" ∧ (parseMethodDescriptor yX2_takeLatest.desc).map (fun d => d.parameters.length) = some 0 := by decide +kernel
def RT_X2_takeLatest (p : Program) (l : Launch) (e : Env) (s : State) (m : MethodId) (args : Array Value) (below : List Frame) (meth : Method) (c : Code) (Q : State → Prop) (A : Nat → Prop) (G : va_G) (cI cJ cZ cO : ClassId) (a_this : Nat) (a_before : Nat) (before_ : (Nat → Int32)) (res : Int32 × Int32) : Prop := ∀ (v_ : Int32) (o_count_ : Int32), some (v_, o_count_) = some res → ∀ (H : Heap) (locs : List Loc) (ls : Array Slot) (pc : Nat), decode cX2_takeLatest pc = .ok (.ireturn, 1) → va_P G vwCl [(a_this, .inr (2, [.ref a_before, .int o_count_])), (a_before, .inl (cI, 8, .inl before_))] H → va_D A [(a_this, .inr (2, [.ref a_before, .int o_count_])), (a_before, .inl (cI, 8, .inl before_))] → va_S A s.heap H locs → W p l e ({ frames := 0, cells := 0, slots := 0, locals := 0 } : Room) s m args below meth c H locs 0 0 Q (F0 m pc ls [.int v_])
set_option maxHeartbeats 4000000 in
set_option maxRecDepth 100000 in
theorem w_X2_takeLatest_0 {p : Program} {l : Launch} {e : Env} {s : State} {m : MethodId} {args : Array Value} {below : List Frame} {meth : Method} {c : Code} {Q : State → Prop} {A : Nat → Prop} {G : va_G} {cI cJ cZ cO : ClassId} {tS : Nat} (a_this : Nat) (a_before : Nat) (before_ : (Nat → Int32)) (hA : ∀ q : Nat, s.heap.size ≤ q → A q) (hK : va_K G vwCl (xTY cI cJ cZ cO) s) (hZ : xST tS A s) (M : CallFix p m c cX2_takeLatest 1 s args wsX2_takeLatest RX2) (res : Int32 × Int32) (hR : RT_X2_takeLatest p l e s m args below meth c Q A G cI cJ cZ cO a_this a_before before_ res) (count_ : Int32)  (hf : f_X2_takeLatest count_ before_ = some res) {H : Heap} {locs : List Loc} {ls : Array Slot} (hP : va_P G vwCl [(a_this, .inr (2, [.ref a_before, .int count_])), (a_before, .inl (cI, 8, .inl before_))] H) (hD : va_D A [(a_this, .inr (2, [.ref a_before, .int count_])), (a_before, .inl (cI, 8, .inl before_))]) (hS : va_S A s.heap H locs) (hl : lv_has ls 1 [(0, .ref a_this)]) : W p l e ({ frames := 0, cells := 0, slots := 0, locals := 0 } : Room) s m args below meth c H locs 0 0 Q (F0 m 0 ls []) := by
  obtain ⟨hx, hb, hml, hown, hts⟩ := id M
  unfold f_X2_takeLatest at hf
  refine lv_aload_n hx hb dX2_takeLatest_0 rfl (lv_at hl 0 rfl) ?_
  refine lv_dup hx hb dX2_takeLatest_1 rfl ?_
  refine xget M (C := RX2) (T := TX2) (N := 2) (ci := 2) (v := .int count_) uw_X2_takeLatest_X2 hK hP 0 rfl rfl 1 (by decide) fl_X2_takeLatest_13 rfl rfl dX2_takeLatest_2 ?_
  refine lv_iconst (v := (1 : Int32)) hx hb dX2_takeLatest_5 (by decide) ?_
  refine lv_isub hx hb dX2_takeLatest_6 ?_
  obtain ⟨count_1, ecount_1, hf⟩ := oL_e hf
  refine xtopi ecount_1 ?_
  refine xput M (C := RX2) (T := TX2) (N := 2) (ci := 2) (v := .int count_1) uw_X2_takeLatest_X2 tyX2 tyX2_ok nmX2 hK hP hD hS 0 rfl rfl 1 (by decide) fl_X2_takeLatest_13 rfl rfl rfl rfl (Nat.le_of_ble_eq_true rfl) [(a_this, .inr (2, [.ref a_before, .int count_1])), (a_before, .inl (cI, 8, .inl before_))] rfl dX2_takeLatest_7 (fun H locs hP hD hS => ?_)
  refine lv_aload_n hx hb dX2_takeLatest_10 rfl (lv_at hl 0 rfl) ?_
  refine xget M (C := RX2) (T := TX2) (N := 2) (ci := 2) (v := .ref a_before) uw_X2_takeLatest_X2 hK hP 0 rfl rfl 0 (by decide) fl_X2_takeLatest_9 rfl rfl dX2_takeLatest_11 ?_
  refine lv_aload_n hx hb dX2_takeLatest_14 rfl (lv_at hl 0 rfl) ?_
  refine xget M (C := RX2) (T := TX2) (N := 2) (ci := 2) (v := .int count_1) uw_X2_takeLatest_X2 hK hP 0 rfl rfl 1 (by decide) fl_X2_takeLatest_13 rfl rfl dX2_takeLatest_15 ?_
  obtain ⟨j2, hj2, hij2, hf⟩ := oA_e hf
  refine xiald M hK hP 1 0 rfl rfl hj2 hij2 dX2_takeLatest_18 ?_
  exact hR _ _ hf _ _ _ _ dX2_takeLatest_19 hP hD hS
set_option maxHeartbeats 4000000 in
set_option maxRecDepth 100000 in
theorem c_X2_takeLatest (l : Launch) (G : va_G) (cI cJ cZ cO : ClassId) (tS sz : Nat) (a_this : Nat) (a_before : Nat) (before_ : (Nat → Int32)) (count_ : Int32)  (v_ : Int32) (o_count_ : Int32) (hf : f_X2_takeLatest count_ before_ = some (v_, o_count_)) : Met l yX2_takeLatest wsX2_takeLatest ({ frames := 0, cells := 0, slots := 0, locals := 0 } : Room) (xPre G (xTY cI cJ cZ cO) tS [(a_this, .inr (2, [.ref a_before, .int count_])), (a_before, .inl (cI, 8, .inl before_))] sz [.ref a_this]) (xQi G [(a_this, .inr (2, [.ref a_before, .int count_])), (a_before, .inl (cI, 8, .inl before_))] sz (fun _ : Unit => [(a_this, .inr (2, [.ref a_before, .int o_count_])), (a_before, .inl (cI, 8, .inl before_))]) v_) 0 0 (va_A [(a_this, .inr (2, [.ref a_before, .int count_])), (a_before, .inl (cI, 8, .inl before_))] sz) := by
  refine xMet (cc := cX2_takeLatest) (maxL := 1) (ret := (some .int)) (own := RX2) (by decide +kernel) rfl rfl (Nat.le_of_ble_eq_true rfl) rfl ?_
  intro p e s m below meth c ls M hr hlk hin hsz hA hK hZ hP hD hl
  refine w_X2_takeLatest_0 a_this a_before before_ hA hK hZ M (v_, o_count_) (fun v_' o_count_' hres H locs ls pc hd hP hD hS => ?_) count_  hf hP hD va_S.rf hl
  cases hres
  exact xreti (W1 := fun _ : Unit => [(a_this, .inr (2, [.ref a_before, .int o_count_])), (a_before, .inl (cI, 8, .inl before_))]) M hr hlk () hP hD hS hd
/-! BetweenBoth$Sentence.isSo(I)Z -/
theorem hd_X4_isSo : yX4_isSo.cls = RX4 ∧ yX4_isSo.cls ≠ "java/lang/invoke/MethodHandle" ∧ yX4_isSo.cls ≠ "java/lang/invoke/VarHandle" ∧ (parseMethodDescriptor yX4_isSo.desc).map (fun d => d.parameters.length) = some 1 := by decide +kernel
def RT_X4_isSo (p : Program) (l : Launch) (e : Env) (s : State) (m : MethodId) (args : Array Value) (below : List Frame) (meth : Method) (c : Code) (Q : State → Prop) (A : Nat → Prop) (G : va_G) (cI cJ cZ cO : ClassId) (a_this : Nat) (a_words : Nat) (base_ : Int32) (words_ : (Nat → Int64)) (res : Int32) : Prop := ∀ (v_ : Int32), some v_ = some res → (v_ = 0 ∨ v_ = 1) → ∀ (H : Heap) (locs : List Loc) (ls : Array Slot) (pc : Nat), decode cX4_isSo pc = .ok (.ireturn, 1) → va_P G vwCl [(a_this, .inr (4, [.ref a_words, .int base_])), (a_words, .inl (cJ, 160, .inr (.inl words_)))] H → va_D A [(a_this, .inr (4, [.ref a_words, .int base_])), (a_words, .inl (cJ, 160, .inr (.inl words_)))] → va_S A s.heap H locs → W p l e ({ frames := 1, cells := 0, slots := 0, locals := 21 } : Room) s m args below meth c H locs 0 0 Q (F0 m pc ls [.int v_])
set_option maxHeartbeats 4000000 in
set_option maxRecDepth 100000 in
theorem w_X4_isSo_0 {p : Program} {l : Launch} {e : Env} {s : State} {m : MethodId} {args : Array Value} {below : List Frame} {meth : Method} {c : Code} {Q : State → Prop} {A : Nat → Prop} {G : va_G} {cI cJ cZ cO : ClassId} {tS : Nat} (a_this : Nat) (a_words : Nat) (base_ : Int32) (words_ : (Nat → Int64)) (hA : ∀ q : Nat, s.heap.size ≤ q → A q) (hK : va_K G vwCl (xTY cI cJ cZ cO) s) (hZ : xST tS A s) (M : CallFix p m c cX4_isSo 2 s args wsX4_isSo RX4) (res : Int32) (hR : RT_X4_isSo p l e s m args below meth c Q A G cI cJ cZ cO a_this a_words base_ words_ res)  (x1_ : Int32) (hf : f_X4_isSo base_ words_ x1_ = some res) {H : Heap} {locs : List Loc} {ls : Array Slot} (hP : va_P G vwCl [(a_this, .inr (4, [.ref a_words, .int base_])), (a_words, .inl (cJ, 160, .inr (.inl words_)))] H) (hD : va_D A [(a_this, .inr (4, [.ref a_words, .int base_])), (a_words, .inl (cJ, 160, .inr (.inl words_)))]) (hS : va_S A s.heap H locs) (hl : lv_has ls 2 [(0, .ref a_this), (1, .int x1_)]) : W p l e ({ frames := 1, cells := 0, slots := 0, locals := 21 } : Room) s m args below meth c H locs 0 0 Q (F0 m 0 ls []) := by
  obtain ⟨hx, hb, hml, hown, hts⟩ := id M
  unfold f_X4_isSo at hf
  refine lv_aload_n hx hb dX4_isSo_0 rfl (lv_at hl 0 rfl) ?_
  refine lv_iload_n hx hb dX4_isSo_1 rfl (lv_at hl 1 rfl) ?_
  refine lv_bipush (v := (6 : Int32)) hx hb dX4_isSo_2 (by decide) ?_
  refine lv_ishr hx hb dX4_isSo_4 ?_
  obtain ⟨r1, hq2, hf⟩ := oB1_e hf
  refine xcl (wr := []) (ws' := fun _ => [(a_this, .inr (4, [.ref a_words, .int base_])), (a_words, .inl (cJ, 160, .inr (.inl words_)))]) hA hP hD hS (xrV (As := [.int (x1_ >>> ((6 : Int32) &&& 31))]) (rest := []) M hA hK hZ hP hD hS (c_X4_word l G cI cJ cZ cO tS H.size a_this a_words base_ words_ (x1_ >>> ((6 : Int32) &&& 31)) r1 hq2) (cwV 1 hts gX4_isSo_X4_word rfl rfl rfl hd_X4_word ⟨Nat.le_of_ble_eq_true rfl, Nat.le_of_ble_eq_true rfl⟩) [0, 1] rfl rfl 0 rfl rfl rfl hl.1 rfl (Nat.le_of_ble_eq_true rfl) dX4_isSo_5 ⟨Nat.le_of_ble_eq_true rfl, Nat.le_of_ble_eq_true rfl⟩) [0, 1] [] [0, 1] rfl rfl rfl rfl (fun _ => rfl) rfl (fun _ H locs hP hD hS => ?_)
  refine lv_iload_n hx hb dX4_isSo_8 rfl (lv_at hl 1 rfl) ?_
  refine lv_bipush (v := (63 : Int32)) hx hb dX4_isSo_9 (by decide) ?_
  refine lv_iand hx hb dX4_isSo_11 ?_
  refine lv_lushr (v := ((r1.toUInt64 >>> ((x1_ &&& (63 : Int32)).toInt64.toUInt64 &&& Int64.toUInt64 63)).toInt64)) hx hb dX4_isSo_12 rfl ?_
  refine lv_lconst (v := (1 : Int64)) hx hb dX4_isSo_13 (by decide) ?_
  refine lv_land hx hb dX4_isSo_14 ?_
  refine lv_lconst (v := (1 : Int64)) hx hb dX4_isSo_15 (by decide) ?_
  refine W.lcmp hx hb dX4_isSo_16 ?_
  refine lv_if_ne (tgt := 24) hx hb dX4_isSo_17 (by decide) (fun hc3 => ?_) (fun hc3 => ?_)
  · have hf := oI_f hc3 hf
    refine lv_iconst (v := (0 : Int32)) hx hb dX4_isSo_24 (by decide) ?_
    exact hR _ hf (by decide) _ _ _ _ dX4_isSo_25 hP hD hS
  · have hf := oI_t hc3 hf
    refine lv_iconst (v := (1 : Int32)) hx hb dX4_isSo_20 (by decide) ?_
    refine lv_goto (tgt := 25) hx hb dX4_isSo_21 (by decide) ?_
    exact hR _ hf (by decide) _ _ _ _ dX4_isSo_25 hP hD hS
set_option maxHeartbeats 4000000 in
set_option maxRecDepth 100000 in
theorem c_X4_isSo (l : Launch) (G : va_G) (cI cJ cZ cO : ClassId) (tS sz : Nat) (a_this : Nat) (a_words : Nat) (base_ : Int32) (words_ : (Nat → Int64)) (x1_ : Int32) (v_ : Int32) (hf : f_X4_isSo base_ words_ x1_ = some v_) : Met l yX4_isSo wsX4_isSo ({ frames := 1, cells := 0, slots := 0, locals := 21 } : Room) (xPre G (xTY cI cJ cZ cO) tS [(a_this, .inr (4, [.ref a_words, .int base_])), (a_words, .inl (cJ, 160, .inr (.inl words_)))] sz [.ref a_this, .int x1_]) (xQi G [(a_this, .inr (4, [.ref a_words, .int base_])), (a_words, .inl (cJ, 160, .inr (.inl words_)))] sz (fun _ : Unit => [(a_this, .inr (4, [.ref a_words, .int base_])), (a_words, .inl (cJ, 160, .inr (.inl words_)))]) v_) 0 0 (va_A [(a_this, .inr (4, [.ref a_words, .int base_])), (a_words, .inl (cJ, 160, .inr (.inl words_)))] sz) := by
  refine xMet (cc := cX4_isSo) (maxL := 2) (ret := (some .boolean)) (own := RX4) (by decide +kernel) rfl rfl (Nat.le_of_ble_eq_true rfl) rfl ?_
  intro p e s m below meth c ls M hr hlk hin hsz hA hK hZ hP hD hl
  refine w_X4_isSo_0 a_this a_words base_ words_ hA hK hZ M v_ (fun v_' hres hz H locs ls pc hd hP hD hS => ?_)  x1_ hf hP hD va_S.rf hl
  cases hres
  exact xretz (W1 := fun _ : Unit => [(a_this, .inr (4, [.ref a_words, .int base_])), (a_words, .inl (cJ, 160, .inr (.inl words_)))]) M hr hlk hz () hP hD hS hd
/-! BetweenBoth$Parts.nameOf(II)I -/
theorem uw_X3_nameOf_X3 : ∀ w ∈ u_ws RX3 TX3 3, w ∈ wsX3_nameOf := by decide +kernel
theorem fl_X3_nameOf_24 : Cond.fieldLink RX3 24 "BetweenBoth$Parts" (TX3 2).2.1 (TX3 2).2.2.1 ∈ wsX3_nameOf := by decide +kernel
theorem fl_X3_nameOf_15 : Cond.fieldLink RX3 15 "BetweenBoth$Parts" (TX3 1).2.1 (TX3 1).2.2.1 ∈ wsX3_nameOf := by decide +kernel
theorem hd_X3_nameOf : yX3_nameOf.cls = RX3 ∧ yX3_nameOf.cls ≠ "java/lang/invoke/MethodHandle" ∧ yX3_nameOf.cls ≠ "java/lang/invoke/VarHandle" ∧ (parseMethodDescriptor yX3_nameOf.desc).map (fun d => d.parameters.length) = some 2 := by decide +kernel
def RT_X3_nameOf (p : Program) (l : Launch) (e : Env) (s : State) (m : MethodId) (args : Array Value) (below : List Frame) (meth : Method) (c : Code) (Q : State → Prop) (A : Nat → Prop) (G : va_G) (cI cJ cZ cO : ClassId) (a_this : Nat) (a_pairs : Nat) (u_names_ : Value) (res : Int32 × (Nat → Int32) × Int32) : Prop := ∀ (v_ : Int32) (o_pairs_ : (Nat → Int32)) (o_count_ : Int32), some (v_, o_pairs_, o_count_) = some res → ∀ (H : Heap) (locs : List Loc) (ls : Array Slot) (pc : Nat), decode cX3_nameOf pc = .ok (.ireturn, 1) → va_P G vwCl [(a_this, .inr (3, [u_names_, .ref a_pairs, .int o_count_])), (a_pairs, .inl (cI, 256, .inl o_pairs_))] H → va_D A [(a_this, .inr (3, [u_names_, .ref a_pairs, .int o_count_])), (a_pairs, .inl (cI, 256, .inl o_pairs_))] → va_S A s.heap H locs → W p l e ({ frames := 0, cells := 0, slots := 0, locals := 0 } : Room) s m args below meth c H locs 0 0 Q (F0 m pc ls [.int v_])
set_option maxHeartbeats 4000000 in
set_option maxRecDepth 100000 in
theorem wb_X3_nameOf_2 {p : Program} {l : Launch} {e : Env} {s : State} {m : MethodId} {args : Array Value} {below : List Frame} {meth : Method} {c : Code} {Q : State → Prop} {A : Nat → Prop} {G : va_G} {cI cJ cZ cO : ClassId} {tS : Nat} (a_this : Nat) (a_pairs : Nat) (u_names_ : Value) (hA : ∀ q : Nat, s.heap.size ≤ q → A q) (hK : va_K G vwCl (xTY cI cJ cZ cO) s) (hZ : xST tS A s) (M : CallFix p m c cX3_nameOf 4 s args wsX3_nameOf RX3) (res : Int32 × (Nat → Int32) × Int32) (hR : RT_X3_nameOf p l e s m args below meth c Q A G cI cJ cZ cO a_this a_pairs u_names_ res) (count_ : Int32) (pairs_ : (Nat → Int32)) (x1_ : Int32)  (k2 : Int32 → Option (Int32 × (Nat → Int32) × Int32)) (hk2 : ∀ (x3_ : Int32), k2 x3_ = some res → ∀ {H : Heap} {locs : List Loc} {ls : Array Slot}, va_P G vwCl [(a_this, .inr (3, [u_names_, .ref a_pairs, .int count_])), (a_pairs, .inl (cI, 256, .inl pairs_))] H → va_D A [(a_this, .inr (3, [u_names_, .ref a_pairs, .int count_])), (a_pairs, .inl (cI, 256, .inl pairs_))] → va_S A s.heap H locs → lv_has ls 4 [(0, .ref a_this), (1, .int x1_), (3, .int x3_)] → W p l e ({ frames := 0, cells := 0, slots := 0, locals := 0 } : Room) s m args below meth c H locs 0 0 Q (F0 m 2 ls [])) (x3_ : Int32) (hf : b_X3_nameOf_2 count_ pairs_ x1_ k2 x3_ = some res) {H : Heap} {locs : List Loc} {ls : Array Slot} (hP : va_P G vwCl [(a_this, .inr (3, [u_names_, .ref a_pairs, .int count_])), (a_pairs, .inl (cI, 256, .inl pairs_))] H) (hD : va_D A [(a_this, .inr (3, [u_names_, .ref a_pairs, .int count_])), (a_pairs, .inl (cI, 256, .inl pairs_))]) (hS : va_S A s.heap H locs) (hl : lv_has ls 4 [(0, .ref a_this), (1, .int x1_), (3, .int x3_)]) : W p l e ({ frames := 0, cells := 0, slots := 0, locals := 0 } : Room) s m args below meth c H locs 0 0 Q (F0 m 2 ls []) := by
  obtain ⟨hx, hb, hml, hown, hts⟩ := id M
  unfold b_X3_nameOf_2 at hf
  refine lv_iload_n hx hb dX3_nameOf_2 rfl (lv_at hl 2 rfl) ?_
  refine lv_aload_n hx hb dX3_nameOf_3 rfl (lv_at hl 0 rfl) ?_
  refine xget M (C := RX3) (T := TX3) (N := 3) (ci := 3) (v := .int count_) uw_X3_nameOf_X3 hK hP 0 rfl rfl 2 (by decide) fl_X3_nameOf_24 rfl rfl dX3_nameOf_4 ?_
  refine lv_icmp_ge (tgt := 30) hx hb dX3_nameOf_7 (by decide) (fun hc1 => ?_) (fun hc1 => ?_)
  · have hf := oI_t hc1 hf
    refine lv_aload_n hx hb dX3_nameOf_30 rfl (lv_at hl 0 rfl) ?_
    refine xget M (C := RX3) (T := TX3) (N := 3) (ci := 3) (v := .ref a_pairs) uw_X3_nameOf_X3 hK hP 0 rfl rfl 1 (by decide) fl_X3_nameOf_15 rfl rfl dX3_nameOf_31 ?_
    refine lv_aload_n hx hb dX3_nameOf_34 rfl (lv_at hl 0 rfl) ?_
    refine xget M (C := RX3) (T := TX3) (N := 3) (ci := 3) (v := .int count_) uw_X3_nameOf_X3 hK hP 0 rfl rfl 2 (by decide) fl_X3_nameOf_24 rfl rfl dX3_nameOf_35 ?_
    refine lv_iload_n hx hb dX3_nameOf_38 rfl (lv_at hl 1 rfl) ?_
    obtain ⟨j2, hj2, hij2, hf⟩ := oA_e hf
    obtain ⟨pairs_3, epairs_3, hf⟩ := oL_e hf
    refine xiast M hK hP hD hS 1 0 rfl rfl hj2 hij2 epairs_3 [(a_this, .inr (3, [u_names_, .ref a_pairs, .int count_])), (a_pairs, .inl (cI, 256, .inl pairs_3))] rfl dX3_nameOf_39 (fun H locs hP hD hS => ?_)
    refine lv_aload_n hx hb dX3_nameOf_40 rfl (lv_at hl 0 rfl) ?_
    refine lv_dup hx hb dX3_nameOf_41 rfl ?_
    refine xget M (C := RX3) (T := TX3) (N := 3) (ci := 3) (v := .int count_) uw_X3_nameOf_X3 hK hP 0 rfl rfl 2 (by decide) fl_X3_nameOf_24 rfl rfl dX3_nameOf_42 ?_
    refine lv_iconst (v := (1 : Int32)) hx hb dX3_nameOf_45 (by decide) ?_
    refine lv_iadd hx hb dX3_nameOf_46 ?_
    obtain ⟨count_4, ecount_4, hf⟩ := oL_e hf
    refine xtopi ecount_4 ?_
    refine xput M (C := RX3) (T := TX3) (N := 3) (ci := 3) (v := .int count_4) uw_X3_nameOf_X3 tyX3 tyX3_ok nmX3 hK hP hD hS 0 rfl rfl 2 (by decide) fl_X3_nameOf_24 rfl rfl rfl rfl (Nat.le_of_ble_eq_true rfl) [(a_this, .inr (3, [u_names_, .ref a_pairs, .int count_4])), (a_pairs, .inl (cI, 256, .inl pairs_3))] rfl dX3_nameOf_47 (fun H locs hP hD hS => ?_)
    refine lv_aload_n hx hb dX3_nameOf_50 rfl (lv_at hl 0 rfl) ?_
    refine xget M (C := RX3) (T := TX3) (N := 3) (ci := 3) (v := .int count_4) uw_X3_nameOf_X3 hK hP 0 rfl rfl 2 (by decide) fl_X3_nameOf_24 rfl rfl dX3_nameOf_51 ?_
    refine lv_iconst (v := (1 : Int32)) hx hb dX3_nameOf_54 (by decide) ?_
    refine lv_isub hx hb dX3_nameOf_55 ?_
    refine lv_iconst (v := (2 : Int32)) hx hb dX3_nameOf_56 (by decide) ?_
    refine lv_iadd hx hb dX3_nameOf_57 ?_
    exact hR _ _ _ hf _ _ _ _ dX3_nameOf_58 hP hD hS
  · have hf := oI_f hc1 hf
    refine lv_aload_n hx hb dX3_nameOf_10 rfl (lv_at hl 0 rfl) ?_
    refine xget M (C := RX3) (T := TX3) (N := 3) (ci := 3) (v := .ref a_pairs) uw_X3_nameOf_X3 hK hP 0 rfl rfl 1 (by decide) fl_X3_nameOf_15 rfl rfl dX3_nameOf_11 ?_
    refine lv_iload_n hx hb dX3_nameOf_14 rfl (lv_at hl 2 rfl) ?_
    obtain ⟨j5, hj5, hij5, hf⟩ := oA_e hf
    refine xiald M hK hP 1 0 rfl rfl hj5 hij5 dX3_nameOf_15 ?_
    refine lv_iload_n hx hb dX3_nameOf_16 rfl (lv_at hl 1 rfl) ?_
    refine lv_icmp_ne (tgt := 24) hx hb dX3_nameOf_17 (by decide) (fun hc6 => ?_) (fun hc6 => ?_)
    · have hf := oI_f hc6 hf
      obtain ⟨x3_7, ex3_7, hf⟩ := oL_e hf
      refine lv_iinc (v := x3_7) (lv' := [(3, .int x3_7), (0, .ref a_this), (1, .int x1_)]) hx hb dX3_nameOf_24 hl (k := 2) rfl (by rw [← ex3_7]; rfl) (by decide) rfl (fun ls hl => ?_)
      refine lv_goto (tgt := 2) hx hb dX3_nameOf_27 (by decide) ?_
      exact hk2 _ hf hP hD hS (lv_sub hl [1, 2, 0] rfl)
    · have hf := oI_t hc6 hf
      refine lv_iload_n hx hb dX3_nameOf_20 rfl (lv_at hl 2 rfl) ?_
      refine lv_iconst (v := (2 : Int32)) hx hb dX3_nameOf_21 (by decide) ?_
      refine lv_iadd hx hb dX3_nameOf_22 ?_
      exact hR _ _ _ hf _ _ _ _ dX3_nameOf_23 hP hD hS
set_option maxHeartbeats 4000000 in
set_option maxRecDepth 100000 in
theorem wl_X3_nameOf_2 {p : Program} {l : Launch} {e : Env} {s : State} {m : MethodId} {args : Array Value} {below : List Frame} {meth : Method} {c : Code} {Q : State → Prop} {A : Nat → Prop} {G : va_G} {cI cJ cZ cO : ClassId} {tS : Nat} (a_this : Nat) (a_pairs : Nat) (u_names_ : Value) (hA : ∀ q : Nat, s.heap.size ≤ q → A q) (hK : va_K G vwCl (xTY cI cJ cZ cO) s) (hZ : xST tS A s) (M : CallFix p m c cX3_nameOf 4 s args wsX3_nameOf RX3) (res : Int32 × (Nat → Int32) × Int32) (hR : RT_X3_nameOf p l e s m args below meth c Q A G cI cJ cZ cO a_this a_pairs u_names_ res) (count_ : Int32) (pairs_ : (Nat → Int32)) (x1_ : Int32)  (n : Nat) : ∀ (x3_ : Int32), oF (fun k z => b_X3_nameOf_2 count_ pairs_ x1_ k z) n x3_ = some res → ∀ {H : Heap} {locs : List Loc} {ls : Array Slot}, va_P G vwCl [(a_this, .inr (3, [u_names_, .ref a_pairs, .int count_])), (a_pairs, .inl (cI, 256, .inl pairs_))] H → va_D A [(a_this, .inr (3, [u_names_, .ref a_pairs, .int count_])), (a_pairs, .inl (cI, 256, .inl pairs_))] → va_S A s.heap H locs → lv_has ls 4 [(0, .ref a_this), (1, .int x1_), (3, .int x3_)] → W p l e ({ frames := 0, cells := 0, slots := 0, locals := 0 } : Room) s m args below meth c H locs 0 0 Q (F0 m 2 ls []) := by
  induction n with
  | zero => intro x3_ hf; cases hf
  | succ n ih =>
    intro x3_ hf H locs ls hP hD hS hl
    exact wb_X3_nameOf_2 a_this a_pairs u_names_ hA hK hZ M res hR count_ pairs_ x1_  _ ih x3_ hf hP hD hS hl
set_option maxHeartbeats 4000000 in
set_option maxRecDepth 100000 in
theorem w_X3_nameOf_0 {p : Program} {l : Launch} {e : Env} {s : State} {m : MethodId} {args : Array Value} {below : List Frame} {meth : Method} {c : Code} {Q : State → Prop} {A : Nat → Prop} {G : va_G} {cI cJ cZ cO : ClassId} {tS : Nat} (a_this : Nat) (a_pairs : Nat) (u_names_ : Value) (hA : ∀ q : Nat, s.heap.size ≤ q → A q) (hK : va_K G vwCl (xTY cI cJ cZ cO) s) (hZ : xST tS A s) (M : CallFix p m c cX3_nameOf 4 s args wsX3_nameOf RX3) (res : Int32 × (Nat → Int32) × Int32) (hR : RT_X3_nameOf p l e s m args below meth c Q A G cI cJ cZ cO a_this a_pairs u_names_ res) (count_ : Int32) (pairs_ : (Nat → Int32)) (x1_ : Int32) (x2_ : Int32) (hf : f_X3_nameOf count_ pairs_ x1_ x2_ = some res) {H : Heap} {locs : List Loc} {ls : Array Slot} (hP : va_P G vwCl [(a_this, .inr (3, [u_names_, .ref a_pairs, .int count_])), (a_pairs, .inl (cI, 256, .inl pairs_))] H) (hD : va_D A [(a_this, .inr (3, [u_names_, .ref a_pairs, .int count_])), (a_pairs, .inl (cI, 256, .inl pairs_))]) (hS : va_S A s.heap H locs) (hl : lv_has ls 4 [(0, .ref a_this), (1, .int x1_), (2, .int x2_)]) : W p l e ({ frames := 0, cells := 0, slots := 0, locals := 0 } : Room) s m args below meth c H locs 0 0 Q (F0 m 0 ls []) := by
  obtain ⟨hx, hb, hml, hown, hts⟩ := id M
  unfold f_X3_nameOf at hf
  refine lv_iload_n hx hb dX3_nameOf_0 rfl (lv_at hl 2 rfl) ?_
  refine lv_istore_n (lv' := [(3, .int x2_), (0, .ref a_this), (1, .int x1_), (2, .int x2_)]) hx hb dX3_nameOf_1 rfl hl (by decide) rfl (fun ls hl => ?_)
  exact wl_X3_nameOf_2 a_this a_pairs u_names_ hA hK hZ M res hR count_ pairs_ x1_  xN x2_ hf hP hD hS (lv_sub hl [1, 2, 0] rfl)
set_option maxHeartbeats 4000000 in
set_option maxRecDepth 100000 in
theorem c_X3_nameOf (l : Launch) (G : va_G) (cI cJ cZ cO : ClassId) (tS sz : Nat) (a_this : Nat) (a_pairs : Nat) (u_names_ : Value) (count_ : Int32) (pairs_ : (Nat → Int32)) (x1_ : Int32) (x2_ : Int32) (v_ : Int32) (o_pairs_ : (Nat → Int32)) (o_count_ : Int32) (hf : f_X3_nameOf count_ pairs_ x1_ x2_ = some (v_, o_pairs_, o_count_)) : Met l yX3_nameOf wsX3_nameOf ({ frames := 0, cells := 0, slots := 0, locals := 0 } : Room) (xPre G (xTY cI cJ cZ cO) tS [(a_this, .inr (3, [u_names_, .ref a_pairs, .int count_])), (a_pairs, .inl (cI, 256, .inl pairs_))] sz [.ref a_this, .int x1_, .int x2_]) (xQi G [(a_this, .inr (3, [u_names_, .ref a_pairs, .int count_])), (a_pairs, .inl (cI, 256, .inl pairs_))] sz (fun _ : Unit => [(a_this, .inr (3, [u_names_, .ref a_pairs, .int o_count_])), (a_pairs, .inl (cI, 256, .inl o_pairs_))]) v_) 0 0 (va_A [(a_this, .inr (3, [u_names_, .ref a_pairs, .int count_])), (a_pairs, .inl (cI, 256, .inl pairs_))] sz) := by
  refine xMet (cc := cX3_nameOf) (maxL := 4) (ret := (some .int)) (own := RX3) (by decide +kernel) rfl rfl (Nat.le_of_ble_eq_true rfl) rfl ?_
  intro p e s m below meth c ls M hr hlk hin hsz hA hK hZ hP hD hl
  refine w_X3_nameOf_0 a_this a_pairs u_names_ hA hK hZ M (v_, o_pairs_, o_count_) (fun v_' o_pairs_' o_count_' hres H locs ls pc hd hP hD hS => ?_) count_ pairs_ x1_ x2_ hf hP hD va_S.rf hl
  cases hres
  exact xreti (W1 := fun _ : Unit => [(a_this, .inr (3, [u_names_, .ref a_pairs, .int o_count_])), (a_pairs, .inl (cI, 256, .inl o_pairs_))]) M hr hlk () hP hD hS hd
/-! BetweenBoth$Parts.tellBack(I)V -/
theorem uw_X3_tellBack_X3 : ∀ w ∈ u_ws RX3 TX3 3, w ∈ wsX3_tellBack := by decide +kernel
theorem fl_X3_tellBack_9 : Cond.fieldLink RX3 9 "BetweenBoth$Parts" (TX3 0).2.1 (TX3 0).2.2.1 ∈ wsX3_tellBack := by decide +kernel
theorem fl_X3_tellBack_24 : Cond.fieldLink RX3 24 "BetweenBoth$Parts" (TX3 2).2.1 (TX3 2).2.2.1 ∈ wsX3_tellBack := by decide +kernel
theorem hd_X3_tellBack : yX3_tellBack.cls = RX3 ∧ yX3_tellBack.cls ≠ "java/lang/invoke/MethodHandle" ∧ yX3_tellBack.cls ≠ "java/lang/invoke/VarHandle" ∧ (parseMethodDescriptor yX3_tellBack.desc).map (fun d => d.parameters.length) = some 1 := by decide +kernel
def RT_X3_tellBack (p : Program) (l : Launch) (e : Env) (s : State) (m : MethodId) (args : Array Value) (below : List Frame) (meth : Method) (c : Code) (Q : State → Prop) (A : Nat → Prop) (G : va_G) (cI cJ cZ cO : ClassId) (a_this : Nat) (a_names : Nat) (a_pairs : Nat) (res : (Nat → Int32) × (Nat → Int32) × Int32) : Prop := ∀ (o_names_ : (Nat → Int32)) (o_pairs_ : (Nat → Int32)) (o_count_ : Int32), some (o_names_, o_pairs_, o_count_) = some res → ∀ (H : Heap) (locs : List Loc) (ls : Array Slot) (pc : Nat), decode cX3_tellBack pc = .ok (.return_, 1) → va_P G vwCl [(a_this, .inr (3, [.ref a_names, .ref a_pairs, .int o_count_])), (a_names, .inl (cI, 256, .inl o_names_)), (a_pairs, .inl (cI, 256, .inl o_pairs_))] H → va_D A [(a_this, .inr (3, [.ref a_names, .ref a_pairs, .int o_count_])), (a_names, .inl (cI, 256, .inl o_names_)), (a_pairs, .inl (cI, 256, .inl o_pairs_))] → va_S A s.heap H locs → W p l e ({ frames := 1, cells := 0, slots := 0, locals := 23 } : Room) s m args below meth c H locs 0 0 Q (F0 m pc ls [])
set_option maxHeartbeats 4000000 in
set_option maxRecDepth 100000 in
theorem w_X3_tellBack_70 {p : Program} {l : Launch} {e : Env} {s : State} {m : MethodId} {args : Array Value} {below : List Frame} {meth : Method} {c : Code} {Q : State → Prop} {A : Nat → Prop} {G : va_G} {cI cJ cZ cO : ClassId} {tS : Nat} (a_this : Nat) (a_names : Nat) (a_pairs : Nat) (hA : ∀ q : Nat, s.heap.size ≤ q → A q) (hK : va_K G vwCl (xTY cI cJ cZ cO) s) (hZ : xST tS A s) (M : CallFix p m c cX3_tellBack 5 s args wsX3_tellBack RX3) (res : (Nat → Int32) × (Nat → Int32) × Int32) (hR : RT_X3_tellBack p l e s m args below meth c Q A G cI cJ cZ cO a_this a_names a_pairs res) (count_ : Int32) (names_ : (Nat → Int32)) (pairs_ : (Nat → Int32)) (x2_ : Int32) (x3_ : Int32) (x4_ : Int32) (k12 : (Int32 × (Nat → Int32) × (Nat → Int32) × Int32) → Option ((Nat → Int32) × (Nat → Int32) × Int32)) (hk12 : ∀ (count_ : Int32) (names_ : (Nat → Int32)) (pairs_ : (Nat → Int32)) (x4_ : Int32), k12 (count_, names_, pairs_, x4_) = some res → ∀ {H : Heap} {locs : List Loc} {ls : Array Slot}, va_P G vwCl [(a_this, .inr (3, [.ref a_names, .ref a_pairs, .int count_])), (a_names, .inl (cI, 256, .inl names_)), (a_pairs, .inl (cI, 256, .inl pairs_))] H → va_D A [(a_this, .inr (3, [.ref a_names, .ref a_pairs, .int count_])), (a_names, .inl (cI, 256, .inl names_)), (a_pairs, .inl (cI, 256, .inl pairs_))] → va_S A s.heap H locs → lv_has ls 5 [(0, .ref a_this), (2, .int x2_), (3, .int x3_), (4, .int x4_)] → W p l e ({ frames := 1, cells := 0, slots := 0, locals := 23 } : Room) s m args below meth c H locs 0 0 Q (F0 m 12 ls [])) (hf : f_X3_tellBack_70 count_ names_ pairs_ x4_ k12 = some res) {H : Heap} {locs : List Loc} {ls : Array Slot} (hP : va_P G vwCl [(a_this, .inr (3, [.ref a_names, .ref a_pairs, .int count_])), (a_names, .inl (cI, 256, .inl names_)), (a_pairs, .inl (cI, 256, .inl pairs_))] H) (hD : va_D A [(a_this, .inr (3, [.ref a_names, .ref a_pairs, .int count_])), (a_names, .inl (cI, 256, .inl names_)), (a_pairs, .inl (cI, 256, .inl pairs_))]) (hS : va_S A s.heap H locs) (hl : lv_has ls 5 [(0, .ref a_this), (2, .int x2_), (3, .int x3_), (4, .int x4_)]) : W p l e ({ frames := 1, cells := 0, slots := 0, locals := 23 } : Room) s m args below meth c H locs 0 0 Q (F0 m 70 ls []) := by
  obtain ⟨hx, hb, hml, hown, hts⟩ := id M
  unfold f_X3_tellBack_70 at hf
  obtain ⟨x4_1, ex4_1, hf⟩ := oL_e hf
  refine lv_iinc (v := x4_1) (lv' := [(4, .int x4_1), (0, .ref a_this), (2, .int x2_), (3, .int x3_)]) hx hb dX3_tellBack_70 hl (k := 3) rfl (by rw [← ex4_1]; rfl) (by decide) rfl (fun ls hl => ?_)
  refine lv_goto (tgt := 12) hx hb dX3_tellBack_73 (by decide) ?_
  exact hk12 _ _ _ _ hf hP hD hS (lv_sub hl [1, 2, 3, 0] rfl)
set_option maxHeartbeats 4000000 in
set_option maxRecDepth 100000 in
theorem wb_X3_tellBack_12 {p : Program} {l : Launch} {e : Env} {s : State} {m : MethodId} {args : Array Value} {below : List Frame} {meth : Method} {c : Code} {Q : State → Prop} {A : Nat → Prop} {G : va_G} {cI cJ cZ cO : ClassId} {tS : Nat} (a_this : Nat) (a_names : Nat) (a_pairs : Nat) (hA : ∀ q : Nat, s.heap.size ≤ q → A q) (hK : va_K G vwCl (xTY cI cJ cZ cO) s) (hZ : xST tS A s) (M : CallFix p m c cX3_tellBack 5 s args wsX3_tellBack RX3) (res : (Nat → Int32) × (Nat → Int32) × Int32) (hR : RT_X3_tellBack p l e s m args below meth c Q A G cI cJ cZ cO a_this a_names a_pairs res) (x2_ : Int32) (x3_ : Int32)  (k12 : (Int32 × (Nat → Int32) × (Nat → Int32) × Int32) → Option ((Nat → Int32) × (Nat → Int32) × Int32)) (hk12 : ∀ (count_ : Int32) (names_ : (Nat → Int32)) (pairs_ : (Nat → Int32)) (x4_ : Int32), k12 (count_, names_, pairs_, x4_) = some res → ∀ {H : Heap} {locs : List Loc} {ls : Array Slot}, va_P G vwCl [(a_this, .inr (3, [.ref a_names, .ref a_pairs, .int count_])), (a_names, .inl (cI, 256, .inl names_)), (a_pairs, .inl (cI, 256, .inl pairs_))] H → va_D A [(a_this, .inr (3, [.ref a_names, .ref a_pairs, .int count_])), (a_names, .inl (cI, 256, .inl names_)), (a_pairs, .inl (cI, 256, .inl pairs_))] → va_S A s.heap H locs → lv_has ls 5 [(0, .ref a_this), (2, .int x2_), (3, .int x3_), (4, .int x4_)] → W p l e ({ frames := 1, cells := 0, slots := 0, locals := 23 } : Room) s m args below meth c H locs 0 0 Q (F0 m 12 ls [])) (count_ : Int32) (names_ : (Nat → Int32)) (pairs_ : (Nat → Int32)) (x4_ : Int32) (hf : b_X3_tellBack_12 x2_ x3_ k12 count_ names_ pairs_ x4_ = some res) {H : Heap} {locs : List Loc} {ls : Array Slot} (hP : va_P G vwCl [(a_this, .inr (3, [.ref a_names, .ref a_pairs, .int count_])), (a_names, .inl (cI, 256, .inl names_)), (a_pairs, .inl (cI, 256, .inl pairs_))] H) (hD : va_D A [(a_this, .inr (3, [.ref a_names, .ref a_pairs, .int count_])), (a_names, .inl (cI, 256, .inl names_)), (a_pairs, .inl (cI, 256, .inl pairs_))]) (hS : va_S A s.heap H locs) (hl : lv_has ls 5 [(0, .ref a_this), (2, .int x2_), (3, .int x3_), (4, .int x4_)]) : W p l e ({ frames := 1, cells := 0, slots := 0, locals := 23 } : Room) s m args below meth c H locs 0 0 Q (F0 m 12 ls []) := by
  obtain ⟨hx, hb, hml, hown, hts⟩ := id M
  unfold b_X3_tellBack_12 at hf
  refine lv_iload hx hb dX3_tellBack_12 (lv_at hl 3 rfl) ?_
  refine lv_iload_n hx hb dX3_tellBack_14 rfl (lv_at hl 2 rfl) ?_
  refine lv_icmp_ge (tgt := 76) hx hb dX3_tellBack_15 (by decide) (fun hc1 => ?_) (fun hc1 => ?_)
  · have hf := oI_t hc1 hf
    exact hR _ _ _ hf _ _ _ _ dX3_tellBack_76 hP hD hS
  · have hf := oI_f hc1 hf
    refine lv_aload_n hx hb dX3_tellBack_18 rfl (lv_at hl 0 rfl) ?_
    refine xget M (C := RX3) (T := TX3) (N := 3) (ci := 3) (v := .ref a_names) uw_X3_tellBack_X3 hK hP 0 rfl rfl 0 (by decide) fl_X3_tellBack_9 rfl rfl dX3_tellBack_19 ?_
    refine lv_iload hx hb dX3_tellBack_22 (lv_at hl 3 rfl) ?_
    obtain ⟨j2, hj2, hij2, hf⟩ := oA_e hf
    refine xiald M hK hP 1 0 rfl rfl hj2 hij2 dX3_tellBack_24 ?_
    refine lv_aload_n hx hb dX3_tellBack_25 rfl (lv_at hl 0 rfl) ?_
    refine xget M (C := RX3) (T := TX3) (N := 3) (ci := 3) (v := .ref a_names) uw_X3_tellBack_X3 hK hP 0 rfl rfl 0 (by decide) fl_X3_tellBack_9 rfl rfl dX3_tellBack_26 ?_
    refine lv_iload hx hb dX3_tellBack_29 (lv_at hl 3 rfl) ?_
    refine lv_iload_n hx hb dX3_tellBack_31 rfl (lv_at hl 2 rfl) ?_
    refine lv_ior hx hb dX3_tellBack_32 ?_
    obtain ⟨j3, hj3, hij3, hf⟩ := oA_e hf
    refine xiald M hK hP 1 0 rfl rfl hj3 hij3 dX3_tellBack_33 ?_
    refine lv_icmp_eq (tgt := 70) hx hb dX3_tellBack_34 (by decide) (fun hc4 => ?_) (fun hc4 => ?_)
    · have hf := oI_t hc4 hf
      exact w_X3_tellBack_70 a_this a_names a_pairs hA hK hZ M res hR count_ names_ pairs_ x2_ x3_ x4_ k12 hk12 hf hP hD hS (lv_sub hl [0, 1, 2, 3] rfl)
    · have hf := oI_f hc4 hf
      refine lv_aload_n hx hb dX3_tellBack_37 rfl (lv_at hl 0 rfl) ?_
      refine xget M (C := RX3) (T := TX3) (N := 3) (ci := 3) (v := .ref a_names) uw_X3_tellBack_X3 hK hP 0 rfl rfl 0 (by decide) fl_X3_tellBack_9 rfl rfl dX3_tellBack_38 ?_
      refine lv_iload hx hb dX3_tellBack_41 (lv_at hl 3 rfl) ?_
      refine lv_aload_n hx hb dX3_tellBack_43 rfl (lv_at hl 0 rfl) ?_
      refine lv_aload_n hx hb dX3_tellBack_44 rfl (lv_at hl 0 rfl) ?_
      refine xget M (C := RX3) (T := TX3) (N := 3) (ci := 3) (v := .ref a_names) uw_X3_tellBack_X3 hK hP 0 rfl rfl 0 (by decide) fl_X3_tellBack_9 rfl rfl dX3_tellBack_45 ?_
      refine lv_iload hx hb dX3_tellBack_48 (lv_at hl 3 rfl) ?_
      obtain ⟨j5, hj5, hij5, hf⟩ := oA_e hf
      refine xiald M hK hP 1 0 rfl rfl hj5 hij5 dX3_tellBack_50 ?_
      refine lv_sipush (v := (256 : Int32)) hx hb dX3_tellBack_51 (by decide) ?_
      refine lv_imul hx hb dX3_tellBack_54 ?_
      refine lv_aload_n hx hb dX3_tellBack_55 rfl (lv_at hl 0 rfl) ?_
      refine xget M (C := RX3) (T := TX3) (N := 3) (ci := 3) (v := .ref a_names) uw_X3_tellBack_X3 hK hP 0 rfl rfl 0 (by decide) fl_X3_tellBack_9 rfl rfl dX3_tellBack_56 ?_
      refine lv_iload hx hb dX3_tellBack_59 (lv_at hl 3 rfl) ?_
      refine lv_iload_n hx hb dX3_tellBack_61 rfl (lv_at hl 2 rfl) ?_
      refine lv_ior hx hb dX3_tellBack_62 ?_
      obtain ⟨j6, hj6, hij6, hf⟩ := oA_e hf
      refine xiald M hK hP 1 0 rfl rfl hj6 hij6 dX3_tellBack_63 ?_
      refine lv_iadd hx hb dX3_tellBack_64 ?_
      refine lv_iload_n hx hb dX3_tellBack_65 rfl (lv_at hl 1 rfl) ?_
      obtain ⟨r7, pairs_8, count_9, hq10, hf⟩ := oB3_e hf
      refine xci (wr := [(a_names, .inl (cI, 256, .inl names_))]) (ws' := fun _ => [(a_this, .inr (3, [.ref a_names, .ref a_pairs, .int count_9])), (a_names, .inl (cI, 256, .inl names_)), (a_pairs, .inl (cI, 256, .inl pairs_8))]) hA hP hD hS (xrV (As := [.int (((names_ j5) * (256 : Int32)) + (names_ j6)), .int x2_]) (rest := [.int x4_, .ref a_names]) M hA hK hZ hP hD hS (c_X3_nameOf l G cI cJ cZ cO tS H.size a_this a_pairs (.ref a_names) count_ pairs_ (((names_ j5) * (256 : Int32)) + (names_ j6)) x2_ r7 pairs_8 count_9 hq10) (cwV 2 hts gX3_tellBack_X3_nameOf rfl rfl rfl hd_X3_nameOf ⟨Nat.le_of_ble_eq_true rfl, Nat.le_of_ble_eq_true rfl⟩) [0, 2] rfl rfl 0 rfl rfl rfl hl.1 rfl (Nat.le_of_ble_eq_true rfl) dX3_tellBack_66 ⟨Nat.le_of_ble_eq_true rfl, Nat.le_of_ble_eq_true rfl⟩) [0, 2] [1] [1, 0, 2] rfl rfl rfl rfl (fun _ => rfl) rfl (fun _ H locs hP hD hS => ?_)
      obtain ⟨j11, hj11, hij11, hf⟩ := oA_e hf
      obtain ⟨names_12, enames_12, hf⟩ := oL_e hf
      refine xiast M hK hP hD hS 1 0 rfl rfl hj11 hij11 enames_12 [(a_this, .inr (3, [.ref a_names, .ref a_pairs, .int count_9])), (a_names, .inl (cI, 256, .inl names_12)), (a_pairs, .inl (cI, 256, .inl pairs_8))] rfl dX3_tellBack_69 (fun H locs hP hD hS => ?_)
      exact w_X3_tellBack_70 a_this a_names a_pairs hA hK hZ M res hR count_9 names_12 pairs_8 x2_ x3_ x4_ k12 hk12 hf hP hD hS (lv_sub hl [0, 1, 2, 3] rfl)
set_option maxHeartbeats 4000000 in
set_option maxRecDepth 100000 in
theorem wl_X3_tellBack_12 {p : Program} {l : Launch} {e : Env} {s : State} {m : MethodId} {args : Array Value} {below : List Frame} {meth : Method} {c : Code} {Q : State → Prop} {A : Nat → Prop} {G : va_G} {cI cJ cZ cO : ClassId} {tS : Nat} (a_this : Nat) (a_names : Nat) (a_pairs : Nat) (hA : ∀ q : Nat, s.heap.size ≤ q → A q) (hK : va_K G vwCl (xTY cI cJ cZ cO) s) (hZ : xST tS A s) (M : CallFix p m c cX3_tellBack 5 s args wsX3_tellBack RX3) (res : (Nat → Int32) × (Nat → Int32) × Int32) (hR : RT_X3_tellBack p l e s m args below meth c Q A G cI cJ cZ cO a_this a_names a_pairs res) (x2_ : Int32) (x3_ : Int32)  (n : Nat) : ∀ (count_ : Int32) (names_ : (Nat → Int32)) (pairs_ : (Nat → Int32)) (x4_ : Int32), oF (fun k z => b_X3_tellBack_12 x2_ x3_ k z.1 z.2.1 z.2.2.1 z.2.2.2) n (count_, names_, pairs_, x4_) = some res → ∀ {H : Heap} {locs : List Loc} {ls : Array Slot}, va_P G vwCl [(a_this, .inr (3, [.ref a_names, .ref a_pairs, .int count_])), (a_names, .inl (cI, 256, .inl names_)), (a_pairs, .inl (cI, 256, .inl pairs_))] H → va_D A [(a_this, .inr (3, [.ref a_names, .ref a_pairs, .int count_])), (a_names, .inl (cI, 256, .inl names_)), (a_pairs, .inl (cI, 256, .inl pairs_))] → va_S A s.heap H locs → lv_has ls 5 [(0, .ref a_this), (2, .int x2_), (3, .int x3_), (4, .int x4_)] → W p l e ({ frames := 1, cells := 0, slots := 0, locals := 23 } : Room) s m args below meth c H locs 0 0 Q (F0 m 12 ls []) := by
  induction n with
  | zero => intro count_ names_ pairs_ x4_ hf; cases hf
  | succ n ih =>
    intro count_ names_ pairs_ x4_ hf H locs ls hP hD hS hl
    exact wb_X3_tellBack_12 a_this a_names a_pairs hA hK hZ M res hR x2_ x3_  _ ih count_ names_ pairs_ x4_ hf hP hD hS hl
set_option maxHeartbeats 4000000 in
set_option maxRecDepth 100000 in
theorem w_X3_tellBack_0 {p : Program} {l : Launch} {e : Env} {s : State} {m : MethodId} {args : Array Value} {below : List Frame} {meth : Method} {c : Code} {Q : State → Prop} {A : Nat → Prop} {G : va_G} {cI cJ cZ cO : ClassId} {tS : Nat} (a_this : Nat) (a_names : Nat) (a_pairs : Nat) (hA : ∀ q : Nat, s.heap.size ≤ q → A q) (hK : va_K G vwCl (xTY cI cJ cZ cO) s) (hZ : xST tS A s) (M : CallFix p m c cX3_tellBack 5 s args wsX3_tellBack RX3) (res : (Nat → Int32) × (Nat → Int32) × Int32) (hR : RT_X3_tellBack p l e s m args below meth c Q A G cI cJ cZ cO a_this a_names a_pairs res) (count_ : Int32) (names_ : (Nat → Int32)) (pairs_ : (Nat → Int32)) (x1_ : Int32) (hf : f_X3_tellBack count_ names_ pairs_ x1_ = some res) {H : Heap} {locs : List Loc} {ls : Array Slot} (hP : va_P G vwCl [(a_this, .inr (3, [.ref a_names, .ref a_pairs, .int count_])), (a_names, .inl (cI, 256, .inl names_)), (a_pairs, .inl (cI, 256, .inl pairs_))] H) (hD : va_D A [(a_this, .inr (3, [.ref a_names, .ref a_pairs, .int count_])), (a_names, .inl (cI, 256, .inl names_)), (a_pairs, .inl (cI, 256, .inl pairs_))]) (hS : va_S A s.heap H locs) (hl : lv_has ls 5 [(0, .ref a_this), (1, .int x1_)]) : W p l e ({ frames := 1, cells := 0, slots := 0, locals := 23 } : Room) s m args below meth c H locs 0 0 Q (F0 m 0 ls []) := by
  obtain ⟨hx, hb, hml, hown, hts⟩ := id M
  unfold f_X3_tellBack at hf
  refine lv_aload_n hx hb dX3_tellBack_0 rfl (lv_at hl 0 rfl) ?_
  refine xget M (C := RX3) (T := TX3) (N := 3) (ci := 3) (v := .int count_) uw_X3_tellBack_X3 hK hP 0 rfl rfl 2 (by decide) fl_X3_tellBack_24 rfl rfl dX3_tellBack_1 ?_
  refine lv_istore_n (lv' := [(2, .int count_), (0, .ref a_this), (1, .int x1_)]) hx hb dX3_tellBack_4 rfl hl (by decide) rfl (fun ls hl => ?_)
  refine lv_iconst (v := (1 : Int32)) hx hb dX3_tellBack_5 (by decide) ?_
  refine lv_iload_n hx hb dX3_tellBack_6 rfl (lv_at hl 2 rfl) ?_
  refine lv_ishl hx hb dX3_tellBack_7 ?_
  obtain ⟨x3_1, ex3_1, hf⟩ := oL_e hf
  refine xtopi ex3_1 ?_
  refine lv_istore_n (lv' := [(3, .int x3_1), (2, .int count_), (0, .ref a_this), (1, .int x1_)]) hx hb dX3_tellBack_8 rfl hl (by decide) rfl (fun ls hl => ?_)
  refine lv_iconst (v := (0 : Int32)) hx hb dX3_tellBack_9 (by decide) ?_
  refine lv_istore (lv' := [(4, .int (0 : Int32)), (3, .int x3_1), (2, .int count_), (0, .ref a_this), (1, .int x1_)]) hx hb dX3_tellBack_10 hl (by decide) rfl (fun ls hl => ?_)
  exact wl_X3_tellBack_12 a_this a_names a_pairs hA hK hZ M res hR count_ x3_1  xN count_ names_ pairs_ (0 : Int32) hf hP hD hS (lv_sub hl [3, 2, 1, 0] rfl)
set_option maxHeartbeats 4000000 in
set_option maxRecDepth 100000 in
theorem c_X3_tellBack (l : Launch) (G : va_G) (cI cJ cZ cO : ClassId) (tS sz : Nat) (a_this : Nat) (a_names : Nat) (a_pairs : Nat) (count_ : Int32) (names_ : (Nat → Int32)) (pairs_ : (Nat → Int32)) (x1_ : Int32) (o_names_ : (Nat → Int32)) (o_pairs_ : (Nat → Int32)) (o_count_ : Int32) (hf : f_X3_tellBack count_ names_ pairs_ x1_ = some (o_names_, o_pairs_, o_count_)) : Met l yX3_tellBack wsX3_tellBack ({ frames := 1, cells := 0, slots := 0, locals := 23 } : Room) (xPre G (xTY cI cJ cZ cO) tS [(a_this, .inr (3, [.ref a_names, .ref a_pairs, .int count_])), (a_names, .inl (cI, 256, .inl names_)), (a_pairs, .inl (cI, 256, .inl pairs_))] sz [.ref a_this, .int x1_]) (xQv G [(a_this, .inr (3, [.ref a_names, .ref a_pairs, .int count_])), (a_names, .inl (cI, 256, .inl names_)), (a_pairs, .inl (cI, 256, .inl pairs_))] sz (fun _ : Unit => [(a_this, .inr (3, [.ref a_names, .ref a_pairs, .int o_count_])), (a_names, .inl (cI, 256, .inl o_names_)), (a_pairs, .inl (cI, 256, .inl o_pairs_))])) 0 0 (va_A [(a_this, .inr (3, [.ref a_names, .ref a_pairs, .int count_])), (a_names, .inl (cI, 256, .inl names_)), (a_pairs, .inl (cI, 256, .inl pairs_))] sz) := by
  refine xMet (cc := cX3_tellBack) (maxL := 5) (ret := none) (own := RX3) (by decide +kernel) rfl rfl (Nat.le_of_ble_eq_true rfl) rfl ?_
  intro p e s m below meth c ls M hr hlk hin hsz hA hK hZ hP hD hl
  refine w_X3_tellBack_0 a_this a_names a_pairs hA hK hZ M (o_names_, o_pairs_, o_count_) (fun o_names_' o_pairs_' o_count_' hres H locs ls pc hd hP hD hS => ?_) count_ names_ pairs_ x1_ hf hP hD va_S.rf hl
  cases hres
  exact xretv (W1 := fun _ : Unit => [(a_this, .inr (3, [.ref a_names, .ref a_pairs, .int o_count_])), (a_names, .inl (cI, 256, .inl o_names_)), (a_pairs, .inl (cI, 256, .inl o_pairs_))]) M hr hlk () hP hD hS hd
/-! BetweenBoth$Parts.countOf(LBetweenBoth$Sentence;)I -/
theorem uw_X3_countOf_X3 : ∀ w ∈ u_ws RX3 TX3 3, w ∈ wsX3_countOf := by decide +kernel
theorem fl_X3_countOf_24 : Cond.fieldLink RX3 24 "BetweenBoth$Parts" (TX3 2).2.1 (TX3 2).2.2.1 ∈ wsX3_countOf := by decide +kernel
theorem fl_X3_countOf_9 : Cond.fieldLink RX3 9 "BetweenBoth$Parts" (TX3 0).2.1 (TX3 0).2.2.1 ∈ wsX3_countOf := by decide +kernel
theorem hd_X3_countOf : yX3_countOf.cls = RX3 ∧ yX3_countOf.cls ≠ "java/lang/invoke/MethodHandle" ∧ yX3_countOf.cls ≠ "java/lang/invoke/VarHandle" ∧ (parseMethodDescriptor yX3_countOf.desc).map (fun d => d.parameters.length) = some 1 := by decide +kernel
def RT_X3_countOf (p : Program) (l : Launch) (e : Env) (s : State) (m : MethodId) (args : Array Value) (below : List Frame) (meth : Method) (c : Code) (Q : State → Prop) (A : Nat → Prop) (G : va_G) (cI cJ cZ cO : ClassId) (a_this : Nat) (a_names : Nat) (a_pairs : Nat) (a_p1 : Nat) (a_p1_words : Nat) (p1_base_ : Int32) (p1_words_ : (Nat → Int64)) (res : Int32 × (Nat → Int32) × (Nat → Int32) × Int32) : Prop := ∀ (v_ : Int32) (o_names_ : (Nat → Int32)) (o_pairs_ : (Nat → Int32)) (o_count_ : Int32), some (v_, o_names_, o_pairs_, o_count_) = some res → ∀ (H : Heap) (locs : List Loc) (ls : Array Slot) (pc : Nat), decode cX3_countOf pc = .ok (.ireturn, 1) → va_P G vwCl [(a_this, .inr (3, [.ref a_names, .ref a_pairs, .int o_count_])), (a_names, .inl (cI, 256, .inl o_names_)), (a_pairs, .inl (cI, 256, .inl o_pairs_)), (a_p1, .inr (4, [.ref a_p1_words, .int p1_base_])), (a_p1_words, .inl (cJ, 160, .inr (.inl p1_words_)))] H → va_D A [(a_this, .inr (3, [.ref a_names, .ref a_pairs, .int o_count_])), (a_names, .inl (cI, 256, .inl o_names_)), (a_pairs, .inl (cI, 256, .inl o_pairs_)), (a_p1, .inr (4, [.ref a_p1_words, .int p1_base_])), (a_p1_words, .inl (cJ, 160, .inr (.inl p1_words_)))] → va_S A s.heap H locs → W p l e ({ frames := 2, cells := 0, slots := 0, locals := 47 } : Room) s m args below meth c H locs 0 0 Q (F0 m pc ls [.int v_])
set_option maxHeartbeats 4000000 in
set_option maxRecDepth 100000 in
theorem wb_X3_countOf_42 {p : Program} {l : Launch} {e : Env} {s : State} {m : MethodId} {args : Array Value} {below : List Frame} {meth : Method} {c : Code} {Q : State → Prop} {A : Nat → Prop} {G : va_G} {cI cJ cZ cO : ClassId} {tS : Nat} (a_this : Nat) (a_names : Nat) (a_pairs : Nat) (a_p1 : Nat) (a_p1_words : Nat) (p1_base_ : Int32) (p1_words_ : (Nat → Int64)) (hA : ∀ q : Nat, s.heap.size ≤ q → A q) (hK : va_K G vwCl (xTY cI cJ cZ cO) s) (hZ : xST tS A s) (M : CallFix p m c cX3_countOf 3 s args wsX3_countOf RX3) (res : Int32 × (Nat → Int32) × (Nat → Int32) × Int32) (hR : RT_X3_countOf p l e s m args below meth c Q A G cI cJ cZ cO a_this a_names a_pairs a_p1 a_p1_words p1_base_ p1_words_ res)   (k42 : (Int32 × (Nat → Int32) × (Nat → Int32) × Int32) → Option (Int32 × (Nat → Int32) × (Nat → Int32) × Int32)) (hk42 : ∀ (count_ : Int32) (names_ : (Nat → Int32)) (pairs_ : (Nat → Int32)) (x2_ : Int32), k42 (count_, names_, pairs_, x2_) = some res → ∀ {H : Heap} {locs : List Loc} {ls : Array Slot}, va_P G vwCl [(a_this, .inr (3, [.ref a_names, .ref a_pairs, .int count_])), (a_names, .inl (cI, 256, .inl names_)), (a_pairs, .inl (cI, 256, .inl pairs_)), (a_p1, .inr (4, [.ref a_p1_words, .int p1_base_])), (a_p1_words, .inl (cJ, 160, .inr (.inl p1_words_)))] H → va_D A [(a_this, .inr (3, [.ref a_names, .ref a_pairs, .int count_])), (a_names, .inl (cI, 256, .inl names_)), (a_pairs, .inl (cI, 256, .inl pairs_)), (a_p1, .inr (4, [.ref a_p1_words, .int p1_base_])), (a_p1_words, .inl (cJ, 160, .inr (.inl p1_words_)))] → va_S A s.heap H locs → lv_has ls 3 [(0, .ref a_this), (2, .int x2_)] → W p l e ({ frames := 2, cells := 0, slots := 0, locals := 47 } : Room) s m args below meth c H locs 0 0 Q (F0 m 42 ls [])) (count_ : Int32) (names_ : (Nat → Int32)) (pairs_ : (Nat → Int32)) (x2_ : Int32) (hf : b_X3_countOf_42 k42 count_ names_ pairs_ x2_ = some res) {H : Heap} {locs : List Loc} {ls : Array Slot} (hP : va_P G vwCl [(a_this, .inr (3, [.ref a_names, .ref a_pairs, .int count_])), (a_names, .inl (cI, 256, .inl names_)), (a_pairs, .inl (cI, 256, .inl pairs_)), (a_p1, .inr (4, [.ref a_p1_words, .int p1_base_])), (a_p1_words, .inl (cJ, 160, .inr (.inl p1_words_)))] H) (hD : va_D A [(a_this, .inr (3, [.ref a_names, .ref a_pairs, .int count_])), (a_names, .inl (cI, 256, .inl names_)), (a_pairs, .inl (cI, 256, .inl pairs_)), (a_p1, .inr (4, [.ref a_p1_words, .int p1_base_])), (a_p1_words, .inl (cJ, 160, .inr (.inl p1_words_)))]) (hS : va_S A s.heap H locs) (hl : lv_has ls 3 [(0, .ref a_this), (2, .int x2_)]) : W p l e ({ frames := 2, cells := 0, slots := 0, locals := 47 } : Room) s m args below meth c H locs 0 0 Q (F0 m 42 ls []) := by
  obtain ⟨hx, hb, hml, hown, hts⟩ := id M
  unfold b_X3_countOf_42 at hf
  refine lv_iload_n hx hb dX3_countOf_42 rfl (lv_at hl 1 rfl) ?_
  refine lv_if_lt (tgt := 57) hx hb dX3_countOf_43 (by decide) (fun hc1 => ?_) (fun hc1 => ?_)
  · have hf := oI_t hc1 hf
    refine lv_aload_n hx hb dX3_countOf_57 rfl (lv_at hl 0 rfl) ?_
    refine xget M (C := RX3) (T := TX3) (N := 3) (ci := 3) (v := .int count_) uw_X3_countOf_X3 hK hP 0 rfl rfl 2 (by decide) fl_X3_countOf_24 rfl rfl dX3_countOf_58 ?_
    exact hR _ _ _ _ hf _ _ _ _ dX3_countOf_61 hP hD hS
  · have hf := oI_f hc1 hf
    refine lv_aload_n hx hb dX3_countOf_46 rfl (lv_at hl 0 rfl) ?_
    refine lv_iload_n hx hb dX3_countOf_47 rfl (lv_at hl 1 rfl) ?_
    obtain ⟨names_2, pairs_3, count_4, hq5, hf⟩ := oB3_e hf
    refine xcv (wr := [(a_p1, .inr (4, [.ref a_p1_words, .int p1_base_])), (a_p1_words, .inl (cJ, 160, .inr (.inl p1_words_)))]) (ws' := fun _ => [(a_this, .inr (3, [.ref a_names, .ref a_pairs, .int count_4])), (a_names, .inl (cI, 256, .inl names_2)), (a_pairs, .inl (cI, 256, .inl pairs_3)), (a_p1, .inr (4, [.ref a_p1_words, .int p1_base_])), (a_p1_words, .inl (cJ, 160, .inr (.inl p1_words_)))]) hA hP hD hS (xrV (As := [.int x2_]) (rest := []) M hA hK hZ hP hD hS (c_X3_tellBack l G cI cJ cZ cO tS H.size a_this a_names a_pairs count_ names_ pairs_ x2_ names_2 pairs_3 count_4 hq5) (cwV 1 hts gX3_countOf_X3_tellBack rfl rfl rfl hd_X3_tellBack ⟨Nat.le_of_ble_eq_true rfl, Nat.le_of_ble_eq_true rfl⟩) [0, 1, 2] rfl rfl 0 rfl rfl rfl hl.1 rfl (Nat.le_of_ble_eq_true rfl) dX3_countOf_48 ⟨Nat.le_of_ble_eq_true rfl, Nat.le_of_ble_eq_true rfl⟩) [0, 1, 2] [3, 4] [2, 3, 4, 0, 1] rfl rfl rfl rfl (fun _ => rfl) rfl (fun _ H locs hP hD hS => ?_)
    obtain ⟨x2_6, ex2_6, hf⟩ := oL_e hf
    refine lv_iinc (v := x2_6) (lv' := [(2, .int x2_6), (0, .ref a_this)]) hx hb dX3_countOf_51 hl (k := 1) rfl (by rw [← ex2_6]; rfl) (by decide) rfl (fun ls hl => ?_)
    refine lv_goto (tgt := 42) hx hb dX3_countOf_54 (by decide) ?_
    exact hk42 _ _ _ _ hf hP hD hS (lv_sub hl [1, 0] rfl)
set_option maxHeartbeats 4000000 in
set_option maxRecDepth 100000 in
theorem wl_X3_countOf_42 {p : Program} {l : Launch} {e : Env} {s : State} {m : MethodId} {args : Array Value} {below : List Frame} {meth : Method} {c : Code} {Q : State → Prop} {A : Nat → Prop} {G : va_G} {cI cJ cZ cO : ClassId} {tS : Nat} (a_this : Nat) (a_names : Nat) (a_pairs : Nat) (a_p1 : Nat) (a_p1_words : Nat) (p1_base_ : Int32) (p1_words_ : (Nat → Int64)) (hA : ∀ q : Nat, s.heap.size ≤ q → A q) (hK : va_K G vwCl (xTY cI cJ cZ cO) s) (hZ : xST tS A s) (M : CallFix p m c cX3_countOf 3 s args wsX3_countOf RX3) (res : Int32 × (Nat → Int32) × (Nat → Int32) × Int32) (hR : RT_X3_countOf p l e s m args below meth c Q A G cI cJ cZ cO a_this a_names a_pairs a_p1 a_p1_words p1_base_ p1_words_ res)   (n : Nat) : ∀ (count_ : Int32) (names_ : (Nat → Int32)) (pairs_ : (Nat → Int32)) (x2_ : Int32), oF (fun k z => b_X3_countOf_42  k z.1 z.2.1 z.2.2.1 z.2.2.2) n (count_, names_, pairs_, x2_) = some res → ∀ {H : Heap} {locs : List Loc} {ls : Array Slot}, va_P G vwCl [(a_this, .inr (3, [.ref a_names, .ref a_pairs, .int count_])), (a_names, .inl (cI, 256, .inl names_)), (a_pairs, .inl (cI, 256, .inl pairs_)), (a_p1, .inr (4, [.ref a_p1_words, .int p1_base_])), (a_p1_words, .inl (cJ, 160, .inr (.inl p1_words_)))] H → va_D A [(a_this, .inr (3, [.ref a_names, .ref a_pairs, .int count_])), (a_names, .inl (cI, 256, .inl names_)), (a_pairs, .inl (cI, 256, .inl pairs_)), (a_p1, .inr (4, [.ref a_p1_words, .int p1_base_])), (a_p1_words, .inl (cJ, 160, .inr (.inl p1_words_)))] → va_S A s.heap H locs → lv_has ls 3 [(0, .ref a_this), (2, .int x2_)] → W p l e ({ frames := 2, cells := 0, slots := 0, locals := 47 } : Room) s m args below meth c H locs 0 0 Q (F0 m 42 ls []) := by
  induction n with
  | zero => intro count_ names_ pairs_ x2_ hf; cases hf
  | succ n ih =>
    intro count_ names_ pairs_ x2_ hf H locs ls hP hD hS hl
    exact wb_X3_countOf_42 a_this a_names a_pairs a_p1 a_p1_words p1_base_ p1_words_ hA hK hZ M res hR   _ ih count_ names_ pairs_ x2_ hf hP hD hS hl
set_option maxHeartbeats 4000000 in
set_option maxRecDepth 100000 in
theorem w_X3_countOf_27 {p : Program} {l : Launch} {e : Env} {s : State} {m : MethodId} {args : Array Value} {below : List Frame} {meth : Method} {c : Code} {Q : State → Prop} {A : Nat → Prop} {G : va_G} {cI cJ cZ cO : ClassId} {tS : Nat} (a_this : Nat) (a_names : Nat) (a_pairs : Nat) (a_p1 : Nat) (a_p1_words : Nat) (p1_base_ : Int32) (p1_words_ : (Nat → Int64)) (hA : ∀ q : Nat, s.heap.size ≤ q → A q) (hK : va_K G vwCl (xTY cI cJ cZ cO) s) (hZ : xST tS A s) (M : CallFix p m c cX3_countOf 3 s args wsX3_countOf RX3) (res : Int32 × (Nat → Int32) × (Nat → Int32) × Int32) (hR : RT_X3_countOf p l e s m args below meth c Q A G cI cJ cZ cO a_this a_names a_pairs a_p1 a_p1_words p1_base_ p1_words_ res) (count_ : Int32) (names_ : (Nat → Int32)) (pairs_ : (Nat → Int32)) (x2_ : Int32) (s1_ : Int32) (s2_ : Int32) (k2 : ((Nat → Int32) × Int32) → Option (Int32 × (Nat → Int32) × (Nat → Int32) × Int32)) (hk2 : ∀ (names_ : (Nat → Int32)) (x2_ : Int32), k2 (names_, x2_) = some res → ∀ {H : Heap} {locs : List Loc} {ls : Array Slot}, va_P G vwCl [(a_this, .inr (3, [.ref a_names, .ref a_pairs, .int count_])), (a_names, .inl (cI, 256, .inl names_)), (a_pairs, .inl (cI, 256, .inl pairs_)), (a_p1, .inr (4, [.ref a_p1_words, .int p1_base_])), (a_p1_words, .inl (cJ, 160, .inr (.inl p1_words_)))] H → va_D A [(a_this, .inr (3, [.ref a_names, .ref a_pairs, .int count_])), (a_names, .inl (cI, 256, .inl names_)), (a_pairs, .inl (cI, 256, .inl pairs_)), (a_p1, .inr (4, [.ref a_p1_words, .int p1_base_])), (a_p1_words, .inl (cJ, 160, .inr (.inl p1_words_)))] → va_S A s.heap H locs → lv_has ls 3 [(0, .ref a_this), (1, .ref a_p1), (2, .int x2_)] → W p l e ({ frames := 2, cells := 0, slots := 0, locals := 47 } : Room) s m args below meth c H locs 0 0 Q (F0 m 2 ls [])) (hf : f_X3_countOf_27 names_ x2_ s1_ s2_ k2 = some res) {H : Heap} {locs : List Loc} {ls : Array Slot} (hP : va_P G vwCl [(a_this, .inr (3, [.ref a_names, .ref a_pairs, .int count_])), (a_names, .inl (cI, 256, .inl names_)), (a_pairs, .inl (cI, 256, .inl pairs_)), (a_p1, .inr (4, [.ref a_p1_words, .int p1_base_])), (a_p1_words, .inl (cJ, 160, .inr (.inl p1_words_)))] H) (hD : va_D A [(a_this, .inr (3, [.ref a_names, .ref a_pairs, .int count_])), (a_names, .inl (cI, 256, .inl names_)), (a_pairs, .inl (cI, 256, .inl pairs_)), (a_p1, .inr (4, [.ref a_p1_words, .int p1_base_])), (a_p1_words, .inl (cJ, 160, .inr (.inl p1_words_)))]) (hS : va_S A s.heap H locs) (hl : lv_has ls 3 [(0, .ref a_this), (1, .ref a_p1), (2, .int x2_)]) : W p l e ({ frames := 2, cells := 0, slots := 0, locals := 47 } : Room) s m args below meth c H locs 0 0 Q (F0 m 27 ls [.int s2_, .int s1_, .ref a_names]) := by
  obtain ⟨hx, hb, hml, hown, hts⟩ := id M
  unfold f_X3_countOf_27 at hf
  obtain ⟨j1, hj1, hij1, hf⟩ := oA_e hf
  obtain ⟨names_2, enames_2, hf⟩ := oL_e hf
  refine xiast M hK hP hD hS 1 0 rfl rfl hj1 hij1 enames_2 [(a_this, .inr (3, [.ref a_names, .ref a_pairs, .int count_])), (a_names, .inl (cI, 256, .inl names_2)), (a_pairs, .inl (cI, 256, .inl pairs_)), (a_p1, .inr (4, [.ref a_p1_words, .int p1_base_])), (a_p1_words, .inl (cJ, 160, .inr (.inl p1_words_)))] rfl dX3_countOf_27 (fun H locs hP hD hS => ?_)
  obtain ⟨x2_3, ex2_3, hf⟩ := oL_e hf
  refine lv_iinc (v := x2_3) (lv' := [(2, .int x2_3), (0, .ref a_this), (1, .ref a_p1)]) hx hb dX3_countOf_28 hl (k := 2) rfl (by rw [← ex2_3]; rfl) (by decide) rfl (fun ls hl => ?_)
  refine lv_goto (tgt := 2) hx hb dX3_countOf_31 (by decide) ?_
  exact hk2 _ _ hf hP hD hS (lv_sub hl [1, 2, 0] rfl)
set_option maxHeartbeats 4000000 in
set_option maxRecDepth 100000 in
theorem wb_X3_countOf_2 {p : Program} {l : Launch} {e : Env} {s : State} {m : MethodId} {args : Array Value} {below : List Frame} {meth : Method} {c : Code} {Q : State → Prop} {A : Nat → Prop} {G : va_G} {cI cJ cZ cO : ClassId} {tS : Nat} (a_this : Nat) (a_names : Nat) (a_pairs : Nat) (a_p1 : Nat) (a_p1_words : Nat) (p1_base_ : Int32) (p1_words_ : (Nat → Int64)) (hA : ∀ q : Nat, s.heap.size ≤ q → A q) (hK : va_K G vwCl (xTY cI cJ cZ cO) s) (hZ : xST tS A s) (M : CallFix p m c cX3_countOf 3 s args wsX3_countOf RX3) (res : Int32 × (Nat → Int32) × (Nat → Int32) × Int32) (hR : RT_X3_countOf p l e s m args below meth c Q A G cI cJ cZ cO a_this a_names a_pairs a_p1 a_p1_words p1_base_ p1_words_ res) (count_ : Int32) (pairs_ : (Nat → Int32))  (k2 : ((Nat → Int32) × Int32) → Option (Int32 × (Nat → Int32) × (Nat → Int32) × Int32)) (hk2 : ∀ (names_ : (Nat → Int32)) (x2_ : Int32), k2 (names_, x2_) = some res → ∀ {H : Heap} {locs : List Loc} {ls : Array Slot}, va_P G vwCl [(a_this, .inr (3, [.ref a_names, .ref a_pairs, .int count_])), (a_names, .inl (cI, 256, .inl names_)), (a_pairs, .inl (cI, 256, .inl pairs_)), (a_p1, .inr (4, [.ref a_p1_words, .int p1_base_])), (a_p1_words, .inl (cJ, 160, .inr (.inl p1_words_)))] H → va_D A [(a_this, .inr (3, [.ref a_names, .ref a_pairs, .int count_])), (a_names, .inl (cI, 256, .inl names_)), (a_pairs, .inl (cI, 256, .inl pairs_)), (a_p1, .inr (4, [.ref a_p1_words, .int p1_base_])), (a_p1_words, .inl (cJ, 160, .inr (.inl p1_words_)))] → va_S A s.heap H locs → lv_has ls 3 [(0, .ref a_this), (1, .ref a_p1), (2, .int x2_)] → W p l e ({ frames := 2, cells := 0, slots := 0, locals := 47 } : Room) s m args below meth c H locs 0 0 Q (F0 m 2 ls [])) (names_ : (Nat → Int32)) (x2_ : Int32) (hf : b_X3_countOf_2 pairs_ p1_base_ p1_words_ k2 names_ x2_ = some res) {H : Heap} {locs : List Loc} {ls : Array Slot} (hP : va_P G vwCl [(a_this, .inr (3, [.ref a_names, .ref a_pairs, .int count_])), (a_names, .inl (cI, 256, .inl names_)), (a_pairs, .inl (cI, 256, .inl pairs_)), (a_p1, .inr (4, [.ref a_p1_words, .int p1_base_])), (a_p1_words, .inl (cJ, 160, .inr (.inl p1_words_)))] H) (hD : va_D A [(a_this, .inr (3, [.ref a_names, .ref a_pairs, .int count_])), (a_names, .inl (cI, 256, .inl names_)), (a_pairs, .inl (cI, 256, .inl pairs_)), (a_p1, .inr (4, [.ref a_p1_words, .int p1_base_])), (a_p1_words, .inl (cJ, 160, .inr (.inl p1_words_)))]) (hS : va_S A s.heap H locs) (hl : lv_has ls 3 [(0, .ref a_this), (1, .ref a_p1), (2, .int x2_)]) : W p l e ({ frames := 2, cells := 0, slots := 0, locals := 47 } : Room) s m args below meth c H locs 0 0 Q (F0 m 2 ls []) := by
  obtain ⟨hx, hb, hml, hown, hts⟩ := id M
  unfold b_X3_countOf_2 at hf
  refine lv_iload_n hx hb dX3_countOf_2 rfl (lv_at hl 2 rfl) ?_
  refine lv_sipush (v := (256 : Int32)) hx hb dX3_countOf_3 (by decide) ?_
  refine lv_icmp_ge (tgt := 34) hx hb dX3_countOf_6 (by decide) (fun hc1 => ?_) (fun hc1 => ?_)
  · have hf := oI_t hc1 hf
    refine lv_aload_n hx hb dX3_countOf_34 rfl (lv_at hl 0 rfl) ?_
    refine lv_iconst (v := (0 : Int32)) hx hb dX3_countOf_35 (by decide) ?_
    refine xput M (C := RX3) (T := TX3) (N := 3) (ci := 3) (v := .int (0 : Int32)) uw_X3_countOf_X3 tyX3 tyX3_ok nmX3 hK hP hD hS 0 rfl rfl 2 (by decide) fl_X3_countOf_24 rfl rfl rfl rfl (Nat.le_of_ble_eq_true rfl) [(a_this, .inr (3, [.ref a_names, .ref a_pairs, .int (0 : Int32)])), (a_names, .inl (cI, 256, .inl names_)), (a_pairs, .inl (cI, 256, .inl pairs_)), (a_p1, .inr (4, [.ref a_p1_words, .int p1_base_])), (a_p1_words, .inl (cJ, 160, .inr (.inl p1_words_)))] rfl dX3_countOf_36 (fun H locs hP hD hS => ?_)
    refine lv_bipush (v := (7 : Int32)) hx hb dX3_countOf_39 (by decide) ?_
    refine lv_istore_n (lv' := [(2, .int (7 : Int32)), (0, .ref a_this), (1, .ref a_p1)]) hx hb dX3_countOf_41 rfl hl (by decide) rfl (fun ls hl => ?_)
    exact wl_X3_countOf_42 a_this a_names a_pairs a_p1 a_p1_words p1_base_ p1_words_ hA hK hZ M res hR   xN (0 : Int32) names_ pairs_ (7 : Int32) hf hP hD hS (lv_sub hl [1, 0] rfl)
  · have hf := oI_f hc1 hf
    refine lv_aload_n hx hb dX3_countOf_9 rfl (lv_at hl 0 rfl) ?_
    refine xget M (C := RX3) (T := TX3) (N := 3) (ci := 3) (v := .ref a_names) uw_X3_countOf_X3 hK hP 0 rfl rfl 0 (by decide) fl_X3_countOf_9 rfl rfl dX3_countOf_10 ?_
    refine lv_iload_n hx hb dX3_countOf_13 rfl (lv_at hl 2 rfl) ?_
    refine lv_aload_n hx hb dX3_countOf_14 rfl (lv_at hl 1 rfl) ?_
    refine lv_iload_n hx hb dX3_countOf_15 rfl (lv_at hl 2 rfl) ?_
    obtain ⟨r2, hq3, hf⟩ := oB1_e hf
    refine xci (wr := [(a_this, .inr (3, [.ref a_names, .ref a_pairs, .int count_])), (a_names, .inl (cI, 256, .inl names_)), (a_pairs, .inl (cI, 256, .inl pairs_))]) (ws' := fun _ => [(a_this, .inr (3, [.ref a_names, .ref a_pairs, .int count_])), (a_names, .inl (cI, 256, .inl names_)), (a_pairs, .inl (cI, 256, .inl pairs_)), (a_p1, .inr (4, [.ref a_p1_words, .int p1_base_])), (a_p1_words, .inl (cJ, 160, .inr (.inl p1_words_)))]) hA hP hD hS (xrV (As := [.int x2_]) (rest := [.int x2_, .ref a_names]) M hA hK hZ hP hD hS (c_X4_isSo l G cI cJ cZ cO tS H.size a_p1 a_p1_words p1_base_ p1_words_ x2_ r2 hq3) (cwV 1 hts gX3_countOf_X4_isSo rfl rfl rfl hd_X4_isSo ⟨Nat.le_of_ble_eq_true rfl, Nat.le_of_ble_eq_true rfl⟩) [3, 4] rfl rfl 3 rfl rfl rfl hl.1 rfl (Nat.le_of_ble_eq_true rfl) dX3_countOf_16 ⟨Nat.le_of_ble_eq_true rfl, Nat.le_of_ble_eq_true rfl⟩) [3, 4] [0, 1, 2] [0, 1, 2, 3, 4] rfl rfl rfl rfl (fun _ => rfl) rfl (fun _ H locs hP hD hS => ?_)
    refine lv_if_eq (tgt := 26) hx hb dX3_countOf_19 (by decide) (fun hc4 => ?_) (fun hc4 => ?_)
    · have hf := oI_t hc4 hf
      refine lv_iconst (v := (0 : Int32)) hx hb dX3_countOf_26 (by decide) ?_
      exact w_X3_countOf_27 a_this a_names a_pairs a_p1 a_p1_words p1_base_ p1_words_ hA hK hZ M res hR count_ names_ pairs_ x2_ x2_ (0 : Int32) k2 hk2 hf hP hD hS (lv_sub hl [0, 1, 2] rfl)
    · have hf := oI_f hc4 hf
      refine lv_iconst (v := (1 : Int32)) hx hb dX3_countOf_22 (by decide) ?_
      refine lv_goto (tgt := 27) hx hb dX3_countOf_23 (by decide) ?_
      exact w_X3_countOf_27 a_this a_names a_pairs a_p1 a_p1_words p1_base_ p1_words_ hA hK hZ M res hR count_ names_ pairs_ x2_ x2_ (1 : Int32) k2 hk2 hf hP hD hS (lv_sub hl [0, 1, 2] rfl)
set_option maxHeartbeats 4000000 in
set_option maxRecDepth 100000 in
theorem wl_X3_countOf_2 {p : Program} {l : Launch} {e : Env} {s : State} {m : MethodId} {args : Array Value} {below : List Frame} {meth : Method} {c : Code} {Q : State → Prop} {A : Nat → Prop} {G : va_G} {cI cJ cZ cO : ClassId} {tS : Nat} (a_this : Nat) (a_names : Nat) (a_pairs : Nat) (a_p1 : Nat) (a_p1_words : Nat) (p1_base_ : Int32) (p1_words_ : (Nat → Int64)) (hA : ∀ q : Nat, s.heap.size ≤ q → A q) (hK : va_K G vwCl (xTY cI cJ cZ cO) s) (hZ : xST tS A s) (M : CallFix p m c cX3_countOf 3 s args wsX3_countOf RX3) (res : Int32 × (Nat → Int32) × (Nat → Int32) × Int32) (hR : RT_X3_countOf p l e s m args below meth c Q A G cI cJ cZ cO a_this a_names a_pairs a_p1 a_p1_words p1_base_ p1_words_ res) (count_ : Int32) (pairs_ : (Nat → Int32))  (n : Nat) : ∀ (names_ : (Nat → Int32)) (x2_ : Int32), oF (fun k z => b_X3_countOf_2 pairs_ p1_base_ p1_words_ k z.1 z.2) n (names_, x2_) = some res → ∀ {H : Heap} {locs : List Loc} {ls : Array Slot}, va_P G vwCl [(a_this, .inr (3, [.ref a_names, .ref a_pairs, .int count_])), (a_names, .inl (cI, 256, .inl names_)), (a_pairs, .inl (cI, 256, .inl pairs_)), (a_p1, .inr (4, [.ref a_p1_words, .int p1_base_])), (a_p1_words, .inl (cJ, 160, .inr (.inl p1_words_)))] H → va_D A [(a_this, .inr (3, [.ref a_names, .ref a_pairs, .int count_])), (a_names, .inl (cI, 256, .inl names_)), (a_pairs, .inl (cI, 256, .inl pairs_)), (a_p1, .inr (4, [.ref a_p1_words, .int p1_base_])), (a_p1_words, .inl (cJ, 160, .inr (.inl p1_words_)))] → va_S A s.heap H locs → lv_has ls 3 [(0, .ref a_this), (1, .ref a_p1), (2, .int x2_)] → W p l e ({ frames := 2, cells := 0, slots := 0, locals := 47 } : Room) s m args below meth c H locs 0 0 Q (F0 m 2 ls []) := by
  induction n with
  | zero => intro names_ x2_ hf; cases hf
  | succ n ih =>
    intro names_ x2_ hf H locs ls hP hD hS hl
    exact wb_X3_countOf_2 a_this a_names a_pairs a_p1 a_p1_words p1_base_ p1_words_ hA hK hZ M res hR count_ pairs_  _ ih names_ x2_ hf hP hD hS hl
set_option maxHeartbeats 4000000 in
set_option maxRecDepth 100000 in
theorem w_X3_countOf_0 {p : Program} {l : Launch} {e : Env} {s : State} {m : MethodId} {args : Array Value} {below : List Frame} {meth : Method} {c : Code} {Q : State → Prop} {A : Nat → Prop} {G : va_G} {cI cJ cZ cO : ClassId} {tS : Nat} (a_this : Nat) (a_names : Nat) (a_pairs : Nat) (a_p1 : Nat) (a_p1_words : Nat) (p1_base_ : Int32) (p1_words_ : (Nat → Int64)) (hA : ∀ q : Nat, s.heap.size ≤ q → A q) (hK : va_K G vwCl (xTY cI cJ cZ cO) s) (hZ : xST tS A s) (M : CallFix p m c cX3_countOf 3 s args wsX3_countOf RX3) (res : Int32 × (Nat → Int32) × (Nat → Int32) × Int32) (hR : RT_X3_countOf p l e s m args below meth c Q A G cI cJ cZ cO a_this a_names a_pairs a_p1 a_p1_words p1_base_ p1_words_ res) (count_ : Int32) (names_ : (Nat → Int32)) (pairs_ : (Nat → Int32))  (hf : f_X3_countOf names_ pairs_ p1_base_ p1_words_ = some res) {H : Heap} {locs : List Loc} {ls : Array Slot} (hP : va_P G vwCl [(a_this, .inr (3, [.ref a_names, .ref a_pairs, .int count_])), (a_names, .inl (cI, 256, .inl names_)), (a_pairs, .inl (cI, 256, .inl pairs_)), (a_p1, .inr (4, [.ref a_p1_words, .int p1_base_])), (a_p1_words, .inl (cJ, 160, .inr (.inl p1_words_)))] H) (hD : va_D A [(a_this, .inr (3, [.ref a_names, .ref a_pairs, .int count_])), (a_names, .inl (cI, 256, .inl names_)), (a_pairs, .inl (cI, 256, .inl pairs_)), (a_p1, .inr (4, [.ref a_p1_words, .int p1_base_])), (a_p1_words, .inl (cJ, 160, .inr (.inl p1_words_)))]) (hS : va_S A s.heap H locs) (hl : lv_has ls 3 [(0, .ref a_this), (1, .ref a_p1)]) : W p l e ({ frames := 2, cells := 0, slots := 0, locals := 47 } : Room) s m args below meth c H locs 0 0 Q (F0 m 0 ls []) := by
  obtain ⟨hx, hb, hml, hown, hts⟩ := id M
  unfold f_X3_countOf at hf
  refine lv_iconst (v := (0 : Int32)) hx hb dX3_countOf_0 (by decide) ?_
  refine lv_istore_n (lv' := [(2, .int (0 : Int32)), (0, .ref a_this), (1, .ref a_p1)]) hx hb dX3_countOf_1 rfl hl (by decide) rfl (fun ls hl => ?_)
  exact wl_X3_countOf_2 a_this a_names a_pairs a_p1 a_p1_words p1_base_ p1_words_ hA hK hZ M res hR count_ pairs_  xN names_ (0 : Int32) hf hP hD hS (lv_sub hl [1, 2, 0] rfl)
set_option maxHeartbeats 4000000 in
set_option maxRecDepth 100000 in
theorem c_X3_countOf (l : Launch) (G : va_G) (cI cJ cZ cO : ClassId) (tS sz : Nat) (a_this : Nat) (a_names : Nat) (a_pairs : Nat) (a_p1 : Nat) (a_p1_words : Nat) (p1_base_ : Int32) (p1_words_ : (Nat → Int64)) (count_ : Int32) (names_ : (Nat → Int32)) (pairs_ : (Nat → Int32))  (v_ : Int32) (o_names_ : (Nat → Int32)) (o_pairs_ : (Nat → Int32)) (o_count_ : Int32) (hf : f_X3_countOf names_ pairs_ p1_base_ p1_words_ = some (v_, o_names_, o_pairs_, o_count_)) : Met l yX3_countOf wsX3_countOf ({ frames := 2, cells := 0, slots := 0, locals := 47 } : Room) (xPre G (xTY cI cJ cZ cO) tS [(a_this, .inr (3, [.ref a_names, .ref a_pairs, .int count_])), (a_names, .inl (cI, 256, .inl names_)), (a_pairs, .inl (cI, 256, .inl pairs_)), (a_p1, .inr (4, [.ref a_p1_words, .int p1_base_])), (a_p1_words, .inl (cJ, 160, .inr (.inl p1_words_)))] sz [.ref a_this, .ref a_p1]) (xQi G [(a_this, .inr (3, [.ref a_names, .ref a_pairs, .int count_])), (a_names, .inl (cI, 256, .inl names_)), (a_pairs, .inl (cI, 256, .inl pairs_)), (a_p1, .inr (4, [.ref a_p1_words, .int p1_base_])), (a_p1_words, .inl (cJ, 160, .inr (.inl p1_words_)))] sz (fun _ : Unit => [(a_this, .inr (3, [.ref a_names, .ref a_pairs, .int o_count_])), (a_names, .inl (cI, 256, .inl o_names_)), (a_pairs, .inl (cI, 256, .inl o_pairs_)), (a_p1, .inr (4, [.ref a_p1_words, .int p1_base_])), (a_p1_words, .inl (cJ, 160, .inr (.inl p1_words_)))]) v_) 0 0 (va_A [(a_this, .inr (3, [.ref a_names, .ref a_pairs, .int count_])), (a_names, .inl (cI, 256, .inl names_)), (a_pairs, .inl (cI, 256, .inl pairs_)), (a_p1, .inr (4, [.ref a_p1_words, .int p1_base_])), (a_p1_words, .inl (cJ, 160, .inr (.inl p1_words_)))] sz) := by
  refine xMet (cc := cX3_countOf) (maxL := 3) (ret := (some .int)) (own := RX3) (by decide +kernel) rfl rfl (Nat.le_of_ble_eq_true rfl) rfl ?_
  intro p e s m below meth c ls M hr hlk hin hsz hA hK hZ hP hD hl
  refine w_X3_countOf_0 a_this a_names a_pairs a_p1 a_p1_words p1_base_ p1_words_ hA hK hZ M (v_, o_names_, o_pairs_, o_count_) (fun v_' o_names_' o_pairs_' o_count_' hres H locs ls pc hd hP hD hS => ?_) count_ names_ pairs_  hf hP hD va_S.rf hl
  cases hres
  exact xreti (W1 := fun _ : Unit => [(a_this, .inr (3, [.ref a_names, .ref a_pairs, .int o_count_])), (a_names, .inl (cI, 256, .inl o_names_)), (a_pairs, .inl (cI, 256, .inl o_pairs_)), (a_p1, .inr (4, [.ref a_p1_words, .int p1_base_])), (a_p1_words, .inl (cJ, 160, .inr (.inl p1_words_)))]) M hr hlk () hP hD hS hd
/-! BetweenBoth$Steps.sharedLetters()I -/
theorem uw_X5_sharedLetters_X5 : ∀ w ∈ u_ws RX5 TX5 5, w ∈ wsX5_sharedLetters := by decide +kernel
theorem fl_X5_sharedLetters_22 : Cond.fieldLink RX5 22 "BetweenBoth$Steps" (TX5 3).2.1 (TX5 3).2.2.1 ∈ wsX5_sharedLetters := by decide +kernel
theorem fl_X5_sharedLetters_25 : Cond.fieldLink RX5 25 "BetweenBoth$Steps" (TX5 4).2.1 (TX5 4).2.2.1 ∈ wsX5_sharedLetters := by decide +kernel
theorem hd_X5_sharedLetters : yX5_sharedLetters.cls = RX5 ∧ yX5_sharedLetters.cls ≠ "java/lang/invoke/MethodHandle" ∧ yX5_sharedLetters.cls ≠ "java/lang/invoke/VarHandle" ∧ (parseMethodDescriptor yX5_sharedLetters.desc).map (fun d => d.parameters.length) = some 0 := by decide +kernel
def RT_X5_sharedLetters (p : Program) (l : Launch) (e : Env) (s : State) (m : MethodId) (args : Array Value) (below : List Frame) (meth : Method) (c : Code) (Q : State → Prop) (A : Nat → Prop) (G : va_G) (cI cJ cZ cO : ClassId) (a_this : Nat) (u_cells_ : Value) (u_clauses_ : Value) (u_count_ : Value) (lettersOfA_ : Int32) (lettersOfB_ : Int32) (res : Int32) : Prop := ∀ (v_ : Int32), some v_ = some res → ∀ (H : Heap) (locs : List Loc) (ls : Array Slot) (pc : Nat), decode cX5_sharedLetters pc = .ok (.ireturn, 1) → va_P G vwCl [(a_this, .inr (5, [u_cells_, u_clauses_, u_count_, .int lettersOfA_, .int lettersOfB_]))] H → va_D A [(a_this, .inr (5, [u_cells_, u_clauses_, u_count_, .int lettersOfA_, .int lettersOfB_]))] → va_S A s.heap H locs → W p l e ({ frames := 0, cells := 0, slots := 0, locals := 0 } : Room) s m args below meth c H locs 0 0 Q (F0 m pc ls [.int v_])
set_option maxHeartbeats 4000000 in
set_option maxRecDepth 100000 in
theorem w_X5_sharedLetters_0 {p : Program} {l : Launch} {e : Env} {s : State} {m : MethodId} {args : Array Value} {below : List Frame} {meth : Method} {c : Code} {Q : State → Prop} {A : Nat → Prop} {G : va_G} {cI cJ cZ cO : ClassId} {tS : Nat} (a_this : Nat) (u_cells_ : Value) (u_clauses_ : Value) (u_count_ : Value) (lettersOfA_ : Int32) (lettersOfB_ : Int32) (hA : ∀ q : Nat, s.heap.size ≤ q → A q) (hK : va_K G vwCl (xTY cI cJ cZ cO) s) (hZ : xST tS A s) (M : CallFix p m c cX5_sharedLetters 1 s args wsX5_sharedLetters RX5) (res : Int32) (hR : RT_X5_sharedLetters p l e s m args below meth c Q A G cI cJ cZ cO a_this u_cells_ u_clauses_ u_count_ lettersOfA_ lettersOfB_ res)   (hf : f_X5_sharedLetters lettersOfA_ lettersOfB_ = some res) {H : Heap} {locs : List Loc} {ls : Array Slot} (hP : va_P G vwCl [(a_this, .inr (5, [u_cells_, u_clauses_, u_count_, .int lettersOfA_, .int lettersOfB_]))] H) (hD : va_D A [(a_this, .inr (5, [u_cells_, u_clauses_, u_count_, .int lettersOfA_, .int lettersOfB_]))]) (hS : va_S A s.heap H locs) (hl : lv_has ls 1 [(0, .ref a_this)]) : W p l e ({ frames := 0, cells := 0, slots := 0, locals := 0 } : Room) s m args below meth c H locs 0 0 Q (F0 m 0 ls []) := by
  obtain ⟨hx, hb, hml, hown, hts⟩ := id M
  unfold f_X5_sharedLetters at hf
  refine lv_aload_n hx hb dX5_sharedLetters_0 rfl (lv_at hl 0 rfl) ?_
  refine xget M (C := RX5) (T := TX5) (N := 5) (ci := 5) (v := .int lettersOfA_) uw_X5_sharedLetters_X5 hK hP 0 rfl rfl 3 (by decide) fl_X5_sharedLetters_22 rfl rfl dX5_sharedLetters_1 ?_
  refine lv_aload_n hx hb dX5_sharedLetters_4 rfl (lv_at hl 0 rfl) ?_
  refine xget M (C := RX5) (T := TX5) (N := 5) (ci := 5) (v := .int lettersOfB_) uw_X5_sharedLetters_X5 hK hP 0 rfl rfl 4 (by decide) fl_X5_sharedLetters_25 rfl rfl dX5_sharedLetters_5 ?_
  refine lv_iand hx hb dX5_sharedLetters_8 ?_
  exact hR _ hf _ _ _ _ dX5_sharedLetters_9 hP hD hS
set_option maxHeartbeats 4000000 in
set_option maxRecDepth 100000 in
theorem c_X5_sharedLetters (l : Launch) (G : va_G) (cI cJ cZ cO : ClassId) (tS sz : Nat) (a_this : Nat) (u_cells_ : Value) (u_clauses_ : Value) (u_count_ : Value) (lettersOfA_ : Int32) (lettersOfB_ : Int32)  (v_ : Int32) (hf : f_X5_sharedLetters lettersOfA_ lettersOfB_ = some v_) : Met l yX5_sharedLetters wsX5_sharedLetters ({ frames := 0, cells := 0, slots := 0, locals := 0 } : Room) (xPre G (xTY cI cJ cZ cO) tS [(a_this, .inr (5, [u_cells_, u_clauses_, u_count_, .int lettersOfA_, .int lettersOfB_]))] sz [.ref a_this]) (xQi G [(a_this, .inr (5, [u_cells_, u_clauses_, u_count_, .int lettersOfA_, .int lettersOfB_]))] sz (fun _ : Unit => [(a_this, .inr (5, [u_cells_, u_clauses_, u_count_, .int lettersOfA_, .int lettersOfB_]))]) v_) 0 0 (va_A [(a_this, .inr (5, [u_cells_, u_clauses_, u_count_, .int lettersOfA_, .int lettersOfB_]))] sz) := by
  refine xMet (cc := cX5_sharedLetters) (maxL := 1) (ret := (some .int)) (own := RX5) (by decide +kernel) rfl rfl (Nat.le_of_ble_eq_true rfl) rfl ?_
  intro p e s m below meth c ls M hr hlk hin hsz hA hK hZ hP hD hl
  refine w_X5_sharedLetters_0 a_this u_cells_ u_clauses_ u_count_ lettersOfA_ lettersOfB_ hA hK hZ M v_ (fun v_' hres H locs ls pc hd hP hD hS => ?_)   hf hP hD va_S.rf hl
  cases hres
  exact xreti (W1 := fun _ : Unit => [(a_this, .inr (5, [u_cells_, u_clauses_, u_count_, .int lettersOfA_, .int lettersOfB_]))]) M hr hlk () hP hD hS hd
/-! BetweenBoth$Sentence.ofClause(LBetweenBoth$Steps;III)J -/
theorem kc_X4_ofClause_37 : Cond.constantLong RX4 37 (-1) ∈ wsX4_ofClause := by decide +kernel
theorem hd_X4_ofClause : yX4_ofClause.cls ≠ "java/lang/invoke/MethodHandle" ∧ yX4_ofClause.cls ≠ "java/lang/invoke/VarHandle" ∧ (parseMethodDescriptor yX4_ofClause.desc).map (fun d => d.parameters.length) = some 4 := by decide +kernel
def RT_X4_ofClause (p : Program) (l : Launch) (e : Env) (s : State) (m : MethodId) (args : Array Value) (below : List Frame) (meth : Method) (c : Code) (Q : State → Prop) (A : Nat → Prop) (G : va_G) (cI cJ cZ cO : ClassId) (a_p0 : Nat) (a_p0_cells : Nat) (u_p0_clauses_ : Value) (u_p0_count_ : Value) (p0_lettersOfA_ : Int32) (p0_lettersOfB_ : Int32) (p0_cells_ : (Nat → Int32)) (res : Int64) : Prop := ∀ (v_ : Int64), some v_ = some res → ∀ (H : Heap) (locs : List Loc) (ls : Array Slot) (pc : Nat), decode cX4_ofClause pc = .ok (.lreturn, 1) → va_P G vwCl [(a_p0, .inr (5, [.ref a_p0_cells, u_p0_clauses_, u_p0_count_, .int p0_lettersOfA_, .int p0_lettersOfB_])), (a_p0_cells, .inl (cI, 320, .inl p0_cells_))] H → va_D A [(a_p0, .inr (5, [.ref a_p0_cells, u_p0_clauses_, u_p0_count_, .int p0_lettersOfA_, .int p0_lettersOfB_])), (a_p0_cells, .inl (cI, 320, .inl p0_cells_))] → va_S A s.heap H locs → W p l e ({ frames := 2, cells := 0, slots := 0, locals := 46 } : Room) s m args below meth c H locs 0 0 Q (F0 m pc ls [.long v_])
set_option maxHeartbeats 4000000 in
set_option maxRecDepth 100000 in
theorem w_X4_ofClause_41 {p : Program} {l : Launch} {e : Env} {s : State} {m : MethodId} {args : Array Value} {below : List Frame} {meth : Method} {c : Code} {Q : State → Prop} {A : Nat → Prop} {G : va_G} {cI cJ cZ cO : ClassId} {tS : Nat} (a_p0 : Nat) (a_p0_cells : Nat) (u_p0_clauses_ : Value) (u_p0_count_ : Value) (p0_lettersOfA_ : Int32) (p0_lettersOfB_ : Int32) (p0_cells_ : (Nat → Int32)) (hA : ∀ q : Nat, s.heap.size ≤ q → A q) (hK : va_K G vwCl (xTY cI cJ cZ cO) s) (hZ : xST tS A s) (M : CallFix p m c cX4_ofClause 8 s args wsX4_ofClause RX4) (res : Int64) (hR : RT_X4_ofClause p l e s m args below meth c Q A G cI cJ cZ cO a_p0 a_p0_cells u_p0_clauses_ u_p0_count_ p0_lettersOfA_ p0_lettersOfB_ p0_cells_ res) (x2_ : Int32) (x3_ : Int32) (x4_ : Int32)  (hf : f_X4_ofClause_41 p0_lettersOfA_ p0_lettersOfB_ p0_cells_ x2_ x3_ x4_ = some res) {H : Heap} {locs : List Loc} {ls : Array Slot} (hP : va_P G vwCl [(a_p0, .inr (5, [.ref a_p0_cells, u_p0_clauses_, u_p0_count_, .int p0_lettersOfA_, .int p0_lettersOfB_])), (a_p0_cells, .inl (cI, 320, .inl p0_cells_))] H) (hD : va_D A [(a_p0, .inr (5, [.ref a_p0_cells, u_p0_clauses_, u_p0_count_, .int p0_lettersOfA_, .int p0_lettersOfB_])), (a_p0_cells, .inl (cI, 320, .inl p0_cells_))]) (hS : va_S A s.heap H locs) (hl : lv_has ls 8 [(0, .ref a_p0), (2, .int x2_), (3, .int x3_), (4, .int x4_)]) : W p l e ({ frames := 2, cells := 0, slots := 0, locals := 46 } : Room) s m args below meth c H locs 0 0 Q (F0 m 41 ls []) := by
  obtain ⟨hx, hb, hml, hown, hts⟩ := id M
  unfold f_X4_ofClause_41 at hf
  refine lv_aload_n hx hb dX4_ofClause_41 rfl (lv_at hl 0 rfl) ?_
  obtain ⟨r1, hq2, hf⟩ := oB1_e hf
  refine xci (wr := [(a_p0_cells, .inl (cI, 320, .inl p0_cells_))]) (ws' := fun _ => [(a_p0, .inr (5, [.ref a_p0_cells, u_p0_clauses_, u_p0_count_, .int p0_lettersOfA_, .int p0_lettersOfB_])), (a_p0_cells, .inl (cI, 320, .inl p0_cells_))]) hA hP hD hS (xrV (As := []) (rest := []) M hA hK hZ hP hD hS (c_X5_sharedLetters l G cI cJ cZ cO tS H.size a_p0 (.ref a_p0_cells) (u_p0_clauses_) (u_p0_count_) p0_lettersOfA_ p0_lettersOfB_ r1 hq2) (cwV 0 hts gX4_ofClause_X5_sharedLetters rfl rfl rfl hd_X5_sharedLetters ⟨Nat.le_of_ble_eq_true rfl, Nat.le_of_ble_eq_true rfl⟩) [0] rfl rfl 0 rfl rfl rfl hl.1 rfl (Nat.le_of_ble_eq_true rfl) dX4_ofClause_42 ⟨Nat.le_of_ble_eq_true rfl, Nat.le_of_ble_eq_true rfl⟩) [0] [1] [1, 0] rfl rfl rfl rfl (fun _ => rfl) rfl (fun _ H locs hP hD hS => ?_)
  refine lv_istore (lv' := [(5, .int r1), (0, .ref a_p0), (2, .int x2_), (3, .int x3_), (4, .int x4_)]) hx hb dX4_ofClause_45 hl (by decide) rfl (fun ls hl => ?_)
  refine lv_aload_n hx hb dX4_ofClause_47 rfl (lv_at hl 1 rfl) ?_
  refine lv_iload_n hx hb dX4_ofClause_48 rfl (lv_at hl 2 rfl) ?_
  refine lv_iconst (v := (0 : Int32)) hx hb dX4_ofClause_49 (by decide) ?_
  obtain ⟨r3, hq4, hf⟩ := oB1_e hf
  refine xci (wr := []) (ws' := fun _ => [(a_p0, .inr (5, [.ref a_p0_cells, u_p0_clauses_, u_p0_count_, .int p0_lettersOfA_, .int p0_lettersOfB_])), (a_p0_cells, .inl (cI, 320, .inl p0_cells_))]) hA hP hD hS (xrV (As := [.int x2_, .int (0 : Int32)]) (rest := []) M hA hK hZ hP hD hS (c_X5_cell l G cI cJ cZ cO tS H.size a_p0 a_p0_cells (u_p0_clauses_) (u_p0_count_) (.int p0_lettersOfA_) (.int p0_lettersOfB_) p0_cells_ x2_ (0 : Int32) r3 hq4) (cwV 2 hts gX4_ofClause_X5_cell rfl rfl rfl hd_X5_cell ⟨Nat.le_of_ble_eq_true rfl, Nat.le_of_ble_eq_true rfl⟩) [0, 1] rfl rfl 0 rfl rfl rfl hl.1 rfl (Nat.le_of_ble_eq_true rfl) dX4_ofClause_50 ⟨Nat.le_of_ble_eq_true rfl, Nat.le_of_ble_eq_true rfl⟩) [0, 1] [] [0, 1] rfl rfl rfl rfl (fun _ => rfl) rfl (fun _ H locs hP hD hS => ?_)
  refine lv_iload hx hb dX4_ofClause_53 (lv_at hl 0 rfl) ?_
  refine lv_iand hx hb dX4_ofClause_55 ?_
  refine lv_aload_n hx hb dX4_ofClause_56 rfl (lv_at hl 1 rfl) ?_
  refine lv_iload_n hx hb dX4_ofClause_57 rfl (lv_at hl 2 rfl) ?_
  refine lv_iconst (v := (1 : Int32)) hx hb dX4_ofClause_58 (by decide) ?_
  obtain ⟨r5, hq6, hf⟩ := oB1_e hf
  refine xci (wr := []) (ws' := fun _ => [(a_p0, .inr (5, [.ref a_p0_cells, u_p0_clauses_, u_p0_count_, .int p0_lettersOfA_, .int p0_lettersOfB_])), (a_p0_cells, .inl (cI, 320, .inl p0_cells_))]) hA hP hD hS (xrV (As := [.int x2_, .int (1 : Int32)]) (rest := [.int (r3 &&& r1)]) M hA hK hZ hP hD hS (c_X5_cell l G cI cJ cZ cO tS H.size a_p0 a_p0_cells (u_p0_clauses_) (u_p0_count_) (.int p0_lettersOfA_) (.int p0_lettersOfB_) p0_cells_ x2_ (1 : Int32) r5 hq6) (cwV 2 hts gX4_ofClause_X5_cell rfl rfl rfl hd_X5_cell ⟨Nat.le_of_ble_eq_true rfl, Nat.le_of_ble_eq_true rfl⟩) [0, 1] rfl rfl 0 rfl rfl rfl hl.1 rfl (Nat.le_of_ble_eq_true rfl) dX4_ofClause_59 ⟨Nat.le_of_ble_eq_true rfl, Nat.le_of_ble_eq_true rfl⟩) [0, 1] [] [0, 1] rfl rfl rfl rfl (fun _ => rfl) rfl (fun _ H locs hP hD hS => ?_)
  refine lv_iload hx hb dX4_ofClause_62 (lv_at hl 0 rfl) ?_
  refine lv_iand hx hb dX4_ofClause_64 ?_
  refine lv_iload_n hx hb dX4_ofClause_65 rfl (lv_at hl 3 rfl) ?_
  obtain ⟨r7, hq8, hf⟩ := oB1_e hf
  refine xcl (wr := [(a_p0, .inr (5, [.ref a_p0_cells, u_p0_clauses_, u_p0_count_, .int p0_lettersOfA_, .int p0_lettersOfB_])), (a_p0_cells, .inl (cI, 320, .inl p0_cells_))]) (ws' := fun _ => [(a_p0, .inr (5, [.ref a_p0_cells, u_p0_clauses_, u_p0_count_, .int p0_lettersOfA_, .int p0_lettersOfB_])), (a_p0_cells, .inl (cI, 320, .inl p0_cells_))]) hA hP hD hS (xrS (As := [.int (r3 &&& r1), .int (r5 &&& r1), .int x3_]) (rest := []) M hA hK hZ hP hD hS (c_X8_whereClauseHolds l G cI cJ cZ cO tS H.size (r3 &&& r1) (r5 &&& r1) x3_ r7 hq8) (va_cwS 3 hts gX4_ofClause_X8_whereClauseHolds rfl rfl rfl hd_X8_whereClauseHolds ⟨Nat.le_of_ble_eq_true rfl, Nat.le_of_ble_eq_true rfl⟩) [] rfl rfl rfl hl.1 rfl (Nat.le_of_ble_eq_true rfl) dX4_ofClause_66 ⟨Nat.le_of_ble_eq_true rfl, Nat.le_of_ble_eq_true rfl⟩) [] [0, 1] [0, 1] rfl rfl rfl rfl (fun _ => rfl) rfl (fun _ H locs hP hD hS => ?_)
  refine lv_lstore (lv' := [(6, .long r7), (5, .int r1), (0, .ref a_p0), (2, .int x2_), (3, .int x3_), (4, .int x4_)]) hx hb dX4_ofClause_69 hl (by decide) rfl (fun ls hl => ?_)
  refine lv_iload hx hb dX4_ofClause_71 (lv_at hl 5 rfl) ?_
  refine lv_if_eq (tgt := 81) hx hb dX4_ofClause_73 (by decide) (fun hc9 => ?_) (fun hc9 => ?_)
  · have hf := oI_t hc9 hf
    refine lv_lload hx hb dX4_ofClause_81 (lv_at hl 0 rfl) ?_
    refine lv_ldc2 (v := (-1)) hx hb hown (hts _ kc_X4_ofClause_37) dX4_ofClause_83 ?_
    refine lv_lxor hx hb dX4_ofClause_86 ?_
    exact hR _ hf _ _ _ _ dX4_ofClause_87 hP hD hS
  · have hf := oI_f hc9 hf
    refine lv_lload hx hb dX4_ofClause_76 (lv_at hl 0 rfl) ?_
    refine lv_goto (tgt := 87) hx hb dX4_ofClause_78 (by decide) ?_
    exact hR _ hf _ _ _ _ dX4_ofClause_87 hP hD hS
set_option maxHeartbeats 4000000 in
set_option maxRecDepth 100000 in
theorem w_X4_ofClause_27 {p : Program} {l : Launch} {e : Env} {s : State} {m : MethodId} {args : Array Value} {below : List Frame} {meth : Method} {c : Code} {Q : State → Prop} {A : Nat → Prop} {G : va_G} {cI cJ cZ cO : ClassId} {tS : Nat} (a_p0 : Nat) (a_p0_cells : Nat) (u_p0_clauses_ : Value) (u_p0_count_ : Value) (p0_lettersOfA_ : Int32) (p0_lettersOfB_ : Int32) (p0_cells_ : (Nat → Int32)) (hA : ∀ q : Nat, s.heap.size ≤ q → A q) (hK : va_K G vwCl (xTY cI cJ cZ cO) s) (hZ : xST tS A s) (M : CallFix p m c cX4_ofClause 8 s args wsX4_ofClause RX4) (res : Int64) (hR : RT_X4_ofClause p l e s m args below meth c Q A G cI cJ cZ cO a_p0 a_p0_cells u_p0_clauses_ u_p0_count_ p0_lettersOfA_ p0_lettersOfB_ p0_cells_ res) (x1_ : Int32) (x2_ : Int32) (x3_ : Int32) (x4_ : Int32)  (hf : f_X4_ofClause_27 p0_lettersOfA_ p0_lettersOfB_ p0_cells_ x1_ x2_ x3_ x4_ = some res) {H : Heap} {locs : List Loc} {ls : Array Slot} (hP : va_P G vwCl [(a_p0, .inr (5, [.ref a_p0_cells, u_p0_clauses_, u_p0_count_, .int p0_lettersOfA_, .int p0_lettersOfB_])), (a_p0_cells, .inl (cI, 320, .inl p0_cells_))] H) (hD : va_D A [(a_p0, .inr (5, [.ref a_p0_cells, u_p0_clauses_, u_p0_count_, .int p0_lettersOfA_, .int p0_lettersOfB_])), (a_p0_cells, .inl (cI, 320, .inl p0_cells_))]) (hS : va_S A s.heap H locs) (hl : lv_has ls 8 [(0, .ref a_p0), (1, .int x1_), (2, .int x2_), (3, .int x3_), (4, .int x4_)]) : W p l e ({ frames := 2, cells := 0, slots := 0, locals := 46 } : Room) s m args below meth c H locs 0 0 Q (F0 m 27 ls []) := by
  obtain ⟨hx, hb, hml, hown, hts⟩ := id M
  unfold f_X4_ofClause_27 at hf
  refine lv_iload hx hb dX4_ofClause_27 (lv_at hl 4 rfl) ?_
  refine lv_if_ne (tgt := 41) hx hb dX4_ofClause_29 (by decide) (fun hc1 => ?_) (fun hc1 => ?_)
  · have hf := oI_f hc1 hf
    exact w_X4_ofClause_41 a_p0 a_p0_cells u_p0_clauses_ u_p0_count_ p0_lettersOfA_ p0_lettersOfB_ p0_cells_ hA hK hZ M res hR x2_ x3_ x4_  hf hP hD hS (lv_sub hl [0, 2, 3, 4] rfl)
  · have hf := oI_t hc1 hf
    refine lv_iload_n hx hb dX4_ofClause_32 rfl (lv_at hl 1 rfl) ?_
    refine lv_iconst (v := (2 : Int32)) hx hb dX4_ofClause_33 (by decide) ?_
    refine lv_icmp_eq (tgt := 41) hx hb dX4_ofClause_34 (by decide) (fun hc2 => ?_) (fun hc2 => ?_)
    · have hf := oI_t hc2 hf
      exact w_X4_ofClause_41 a_p0 a_p0_cells u_p0_clauses_ u_p0_count_ p0_lettersOfA_ p0_lettersOfB_ p0_cells_ hA hK hZ M res hR x2_ x3_ x4_  hf hP hD hS (lv_sub hl [0, 2, 3, 4] rfl)
    · have hf := oI_f hc2 hf
      refine lv_ldc2 (v := (-1)) hx hb hown (hts _ kc_X4_ofClause_37) dX4_ofClause_37 ?_
      exact hR _ hf _ _ _ _ dX4_ofClause_40 hP hD hS
set_option maxHeartbeats 4000000 in
set_option maxRecDepth 100000 in
theorem w_X4_ofClause_14 {p : Program} {l : Launch} {e : Env} {s : State} {m : MethodId} {args : Array Value} {below : List Frame} {meth : Method} {c : Code} {Q : State → Prop} {A : Nat → Prop} {G : va_G} {cI cJ cZ cO : ClassId} {tS : Nat} (a_p0 : Nat) (a_p0_cells : Nat) (u_p0_clauses_ : Value) (u_p0_count_ : Value) (p0_lettersOfA_ : Int32) (p0_lettersOfB_ : Int32) (p0_cells_ : (Nat → Int32)) (hA : ∀ q : Nat, s.heap.size ≤ q → A q) (hK : va_K G vwCl (xTY cI cJ cZ cO) s) (hZ : xST tS A s) (M : CallFix p m c cX4_ofClause 8 s args wsX4_ofClause RX4) (res : Int64) (hR : RT_X4_ofClause p l e s m args below meth c Q A G cI cJ cZ cO a_p0 a_p0_cells u_p0_clauses_ u_p0_count_ p0_lettersOfA_ p0_lettersOfB_ p0_cells_ res) (x1_ : Int32) (x2_ : Int32) (x3_ : Int32) (s0_ : Int32)  (hf : f_X4_ofClause_14 p0_lettersOfA_ p0_lettersOfB_ p0_cells_ x1_ x2_ x3_ s0_ = some res) {H : Heap} {locs : List Loc} {ls : Array Slot} (hP : va_P G vwCl [(a_p0, .inr (5, [.ref a_p0_cells, u_p0_clauses_, u_p0_count_, .int p0_lettersOfA_, .int p0_lettersOfB_])), (a_p0_cells, .inl (cI, 320, .inl p0_cells_))] H) (hD : va_D A [(a_p0, .inr (5, [.ref a_p0_cells, u_p0_clauses_, u_p0_count_, .int p0_lettersOfA_, .int p0_lettersOfB_])), (a_p0_cells, .inl (cI, 320, .inl p0_cells_))]) (hS : va_S A s.heap H locs) (hl : lv_has ls 8 [(0, .ref a_p0), (1, .int x1_), (2, .int x2_), (3, .int x3_)]) : W p l e ({ frames := 2, cells := 0, slots := 0, locals := 46 } : Room) s m args below meth c H locs 0 0 Q (F0 m 14 ls [.int s0_]) := by
  obtain ⟨hx, hb, hml, hown, hts⟩ := id M
  unfold f_X4_ofClause_14 at hf
  refine lv_istore (lv' := [(4, .int s0_), (0, .ref a_p0), (1, .int x1_), (2, .int x2_), (3, .int x3_)]) hx hb dX4_ofClause_14 hl (by decide) rfl (fun ls hl => ?_)
  refine lv_iload hx hb dX4_ofClause_16 (lv_at hl 0 rfl) ?_
  refine lv_if_eq (tgt := 27) hx hb dX4_ofClause_18 (by decide) (fun hc1 => ?_) (fun hc1 => ?_)
  · have hf := oI_t hc1 hf
    exact w_X4_ofClause_27 a_p0 a_p0_cells u_p0_clauses_ u_p0_count_ p0_lettersOfA_ p0_lettersOfB_ p0_cells_ hA hK hZ M res hR x1_ x2_ x3_ s0_  hf hP hD hS (lv_sub hl [1, 2, 3, 4, 0] rfl)
  · have hf := oI_f hc1 hf
    refine lv_iload_n hx hb dX4_ofClause_21 rfl (lv_at hl 2 rfl) ?_
    refine lv_if_eq (tgt := 27) hx hb dX4_ofClause_22 (by decide) (fun hc2 => ?_) (fun hc2 => ?_)
    · have hf := oI_t hc2 hf
      exact w_X4_ofClause_27 a_p0 a_p0_cells u_p0_clauses_ u_p0_count_ p0_lettersOfA_ p0_lettersOfB_ p0_cells_ hA hK hZ M res hR x1_ x2_ x3_ s0_  hf hP hD hS (lv_sub hl [1, 2, 3, 4, 0] rfl)
    · have hf := oI_f hc2 hf
      refine lv_lconst (v := (0 : Int64)) hx hb dX4_ofClause_25 (by decide) ?_
      exact hR _ hf _ _ _ _ dX4_ofClause_26 hP hD hS
set_option maxHeartbeats 4000000 in
set_option maxRecDepth 100000 in
theorem w_X4_ofClause_0 {p : Program} {l : Launch} {e : Env} {s : State} {m : MethodId} {args : Array Value} {below : List Frame} {meth : Method} {c : Code} {Q : State → Prop} {A : Nat → Prop} {G : va_G} {cI cJ cZ cO : ClassId} {tS : Nat} (a_p0 : Nat) (a_p0_cells : Nat) (u_p0_clauses_ : Value) (u_p0_count_ : Value) (p0_lettersOfA_ : Int32) (p0_lettersOfB_ : Int32) (p0_cells_ : (Nat → Int32)) (hA : ∀ q : Nat, s.heap.size ≤ q → A q) (hK : va_K G vwCl (xTY cI cJ cZ cO) s) (hZ : xST tS A s) (M : CallFix p m c cX4_ofClause 8 s args wsX4_ofClause RX4) (res : Int64) (hR : RT_X4_ofClause p l e s m args below meth c Q A G cI cJ cZ cO a_p0 a_p0_cells u_p0_clauses_ u_p0_count_ p0_lettersOfA_ p0_lettersOfB_ p0_cells_ res)  (x1_ : Int32) (x2_ : Int32) (x3_ : Int32) (hf : f_X4_ofClause p0_lettersOfA_ p0_lettersOfB_ p0_cells_ x1_ x2_ x3_ = some res) {H : Heap} {locs : List Loc} {ls : Array Slot} (hP : va_P G vwCl [(a_p0, .inr (5, [.ref a_p0_cells, u_p0_clauses_, u_p0_count_, .int p0_lettersOfA_, .int p0_lettersOfB_])), (a_p0_cells, .inl (cI, 320, .inl p0_cells_))] H) (hD : va_D A [(a_p0, .inr (5, [.ref a_p0_cells, u_p0_clauses_, u_p0_count_, .int p0_lettersOfA_, .int p0_lettersOfB_])), (a_p0_cells, .inl (cI, 320, .inl p0_cells_))]) (hS : va_S A s.heap H locs) (hl : lv_has ls 8 [(0, .ref a_p0), (1, .int x1_), (2, .int x2_), (3, .int x3_)]) : W p l e ({ frames := 2, cells := 0, slots := 0, locals := 46 } : Room) s m args below meth c H locs 0 0 Q (F0 m 0 ls []) := by
  obtain ⟨hx, hb, hml, hown, hts⟩ := id M
  unfold f_X4_ofClause at hf
  refine lv_aload_n hx hb dX4_ofClause_0 rfl (lv_at hl 0 rfl) ?_
  refine lv_iload_n hx hb dX4_ofClause_1 rfl (lv_at hl 2 rfl) ?_
  refine lv_iconst (v := (2 : Int32)) hx hb dX4_ofClause_2 (by decide) ?_
  obtain ⟨r1, hq2, hf⟩ := oB1_e hf
  refine xci (wr := []) (ws' := fun _ => [(a_p0, .inr (5, [.ref a_p0_cells, u_p0_clauses_, u_p0_count_, .int p0_lettersOfA_, .int p0_lettersOfB_])), (a_p0_cells, .inl (cI, 320, .inl p0_cells_))]) hA hP hD hS (xrV (As := [.int x2_, .int (2 : Int32)]) (rest := []) M hA hK hZ hP hD hS (c_X5_cell l G cI cJ cZ cO tS H.size a_p0 a_p0_cells (u_p0_clauses_) (u_p0_count_) (.int p0_lettersOfA_) (.int p0_lettersOfB_) p0_cells_ x2_ (2 : Int32) r1 hq2) (cwV 2 hts gX4_ofClause_X5_cell rfl rfl rfl hd_X5_cell ⟨Nat.le_of_ble_eq_true rfl, Nat.le_of_ble_eq_true rfl⟩) [0, 1] rfl rfl 0 rfl rfl rfl hl.1 rfl (Nat.le_of_ble_eq_true rfl) dX4_ofClause_3 ⟨Nat.le_of_ble_eq_true rfl, Nat.le_of_ble_eq_true rfl⟩) [0, 1] [] [0, 1] rfl rfl rfl rfl (fun _ => rfl) rfl (fun _ H locs hP hD hS => ?_)
  refine lv_if_ne (tgt := 13) hx hb dX4_ofClause_6 (by decide) (fun hc3 => ?_) (fun hc3 => ?_)
  · have hf := oI_f hc3 hf
    refine lv_iconst (v := (0 : Int32)) hx hb dX4_ofClause_13 (by decide) ?_
    exact w_X4_ofClause_14 a_p0 a_p0_cells u_p0_clauses_ u_p0_count_ p0_lettersOfA_ p0_lettersOfB_ p0_cells_ hA hK hZ M res hR x1_ x2_ x3_ (0 : Int32)  hf hP hD hS (lv_sub hl [0, 1, 2, 3] rfl)
  · have hf := oI_t hc3 hf
    refine lv_iconst (v := (1 : Int32)) hx hb dX4_ofClause_9 (by decide) ?_
    refine lv_goto (tgt := 14) hx hb dX4_ofClause_10 (by decide) ?_
    exact w_X4_ofClause_14 a_p0 a_p0_cells u_p0_clauses_ u_p0_count_ p0_lettersOfA_ p0_lettersOfB_ p0_cells_ hA hK hZ M res hR x1_ x2_ x3_ (1 : Int32)  hf hP hD hS (lv_sub hl [0, 1, 2, 3] rfl)
set_option maxHeartbeats 4000000 in
set_option maxRecDepth 100000 in
theorem c_X4_ofClause (l : Launch) (G : va_G) (cI cJ cZ cO : ClassId) (tS sz : Nat) (a_p0 : Nat) (a_p0_cells : Nat) (u_p0_clauses_ : Value) (u_p0_count_ : Value) (p0_lettersOfA_ : Int32) (p0_lettersOfB_ : Int32) (p0_cells_ : (Nat → Int32)) (x1_ : Int32) (x2_ : Int32) (x3_ : Int32) (v_ : Int64) (hf : f_X4_ofClause p0_lettersOfA_ p0_lettersOfB_ p0_cells_ x1_ x2_ x3_ = some v_) : Met l yX4_ofClause wsX4_ofClause ({ frames := 2, cells := 0, slots := 0, locals := 46 } : Room) (xPre G (xTY cI cJ cZ cO) tS [(a_p0, .inr (5, [.ref a_p0_cells, u_p0_clauses_, u_p0_count_, .int p0_lettersOfA_, .int p0_lettersOfB_])), (a_p0_cells, .inl (cI, 320, .inl p0_cells_))] sz [.ref a_p0, .int x1_, .int x2_, .int x3_]) (xQl G [(a_p0, .inr (5, [.ref a_p0_cells, u_p0_clauses_, u_p0_count_, .int p0_lettersOfA_, .int p0_lettersOfB_])), (a_p0_cells, .inl (cI, 320, .inl p0_cells_))] sz (fun _ : Unit => [(a_p0, .inr (5, [.ref a_p0_cells, u_p0_clauses_, u_p0_count_, .int p0_lettersOfA_, .int p0_lettersOfB_])), (a_p0_cells, .inl (cI, 320, .inl p0_cells_))]) v_) 0 0 (va_A [(a_p0, .inr (5, [.ref a_p0_cells, u_p0_clauses_, u_p0_count_, .int p0_lettersOfA_, .int p0_lettersOfB_])), (a_p0_cells, .inl (cI, 320, .inl p0_cells_))] sz) := by
  refine xMet (cc := cX4_ofClause) (maxL := 8) (ret := (some .long)) (own := RX4) (by decide +kernel) rfl rfl (Nat.le_of_ble_eq_true rfl) rfl ?_
  intro p e s m below meth c ls M hr hlk hin hsz hA hK hZ hP hD hl
  refine w_X4_ofClause_0 a_p0 a_p0_cells u_p0_clauses_ u_p0_count_ p0_lettersOfA_ p0_lettersOfB_ p0_cells_ hA hK hZ M v_ (fun v_' hres H locs ls pc hd hP hD hS => ?_)  x1_ x2_ x3_ hf hP hD va_S.rf hl
  cases hres
  exact xretl (W1 := fun _ : Unit => [(a_p0, .inr (5, [.ref a_p0_cells, u_p0_clauses_, u_p0_count_, .int p0_lettersOfA_, .int p0_lettersOfB_])), (a_p0_cells, .inl (cI, 320, .inl p0_cells_))]) M hr hlk () hP hD hS hd
/-! BetweenBoth$Steps.colourOf(I)I -/
theorem uw_X5_colourOf_X5 : ∀ w ∈ u_ws RX5 TX5 5, w ∈ wsX5_colourOf := by decide +kernel
theorem fl_X5_colourOf_25 : Cond.fieldLink RX5 25 "BetweenBoth$Steps" (TX5 4).2.1 (TX5 4).2.2.1 ∈ wsX5_colourOf := by decide +kernel
theorem fl_X5_colourOf_22 : Cond.fieldLink RX5 22 "BetweenBoth$Steps" (TX5 3).2.1 (TX5 3).2.2.1 ∈ wsX5_colourOf := by decide +kernel
theorem hd_X5_colourOf : yX5_colourOf.cls = RX5 ∧ yX5_colourOf.cls ≠ "java/lang/invoke/MethodHandle" ∧ yX5_colourOf.cls ≠ "java/lang/invoke/VarHandle" ∧ (parseMethodDescriptor yX5_colourOf.desc).map (fun d => d.parameters.length) = some 1 := by decide +kernel
def RT_X5_colourOf (p : Program) (l : Launch) (e : Env) (s : State) (m : MethodId) (args : Array Value) (below : List Frame) (meth : Method) (c : Code) (Q : State → Prop) (A : Nat → Prop) (G : va_G) (cI cJ cZ cO : ClassId) (a_this : Nat) (u_cells_ : Value) (u_clauses_ : Value) (u_count_ : Value) (lettersOfA_ : Int32) (lettersOfB_ : Int32) (res : Int32) : Prop := ∀ (v_ : Int32), some v_ = some res → ∀ (H : Heap) (locs : List Loc) (ls : Array Slot) (pc : Nat), decode cX5_colourOf pc = .ok (.ireturn, 1) → va_P G vwCl [(a_this, .inr (5, [u_cells_, u_clauses_, u_count_, .int lettersOfA_, .int lettersOfB_]))] H → va_D A [(a_this, .inr (5, [u_cells_, u_clauses_, u_count_, .int lettersOfA_, .int lettersOfB_]))] → va_S A s.heap H locs → W p l e ({ frames := 0, cells := 0, slots := 0, locals := 0 } : Room) s m args below meth c H locs 0 0 Q (F0 m pc ls [.int v_])
set_option maxHeartbeats 4000000 in
set_option maxRecDepth 100000 in
theorem w_X5_colourOf_35 {p : Program} {l : Launch} {e : Env} {s : State} {m : MethodId} {args : Array Value} {below : List Frame} {meth : Method} {c : Code} {Q : State → Prop} {A : Nat → Prop} {G : va_G} {cI cJ cZ cO : ClassId} {tS : Nat} (a_this : Nat) (u_cells_ : Value) (u_clauses_ : Value) (u_count_ : Value) (lettersOfA_ : Int32) (lettersOfB_ : Int32) (hA : ∀ q : Nat, s.heap.size ≤ q → A q) (hK : va_K G vwCl (xTY cI cJ cZ cO) s) (hZ : xST tS A s) (M : CallFix p m c cX5_colourOf 4 s args wsX5_colourOf RX5) (res : Int32) (hR : RT_X5_colourOf p l e s m args below meth c Q A G cI cJ cZ cO a_this u_cells_ u_clauses_ u_count_ lettersOfA_ lettersOfB_ res) (x2_ : Int32) (s0_ : Int32)  (hf : f_X5_colourOf_35 x2_ s0_ = some res) {H : Heap} {locs : List Loc} {ls : Array Slot} (hP : va_P G vwCl [(a_this, .inr (5, [u_cells_, u_clauses_, u_count_, .int lettersOfA_, .int lettersOfB_]))] H) (hD : va_D A [(a_this, .inr (5, [u_cells_, u_clauses_, u_count_, .int lettersOfA_, .int lettersOfB_]))]) (hS : va_S A s.heap H locs) (hl : lv_has ls 4 [(2, .int x2_)]) : W p l e ({ frames := 0, cells := 0, slots := 0, locals := 0 } : Room) s m args below meth c H locs 0 0 Q (F0 m 35 ls [.int s0_]) := by
  obtain ⟨hx, hb, hml, hown, hts⟩ := id M
  unfold f_X5_colourOf_35 at hf
  refine lv_istore_n (lv' := [(3, .int s0_), (2, .int x2_)]) hx hb dX5_colourOf_35 rfl hl (by decide) rfl (fun ls hl => ?_)
  refine lv_iload_n hx hb dX5_colourOf_36 rfl (lv_at hl 1 rfl) ?_
  refine lv_if_eq (tgt := 50) hx hb dX5_colourOf_37 (by decide) (fun hc1 => ?_) (fun hc1 => ?_)
  · have hf := oI_t hc1 hf
    refine lv_iload_n hx hb dX5_colourOf_50 rfl (lv_at hl 0 rfl) ?_
    refine lv_if_eq (tgt := 58) hx hb dX5_colourOf_51 (by decide) (fun hc2 => ?_) (fun hc2 => ?_)
    · have hf := oI_t hc2 hf
      refine lv_iconst (v := (-1 : Int32)) hx hb dX5_colourOf_58 (by decide) ?_
      exact hR _ hf _ _ _ _ dX5_colourOf_59 hP hD hS
    · have hf := oI_f hc2 hf
      refine lv_iconst (v := (1 : Int32)) hx hb dX5_colourOf_54 (by decide) ?_
      refine lv_goto (tgt := 59) hx hb dX5_colourOf_55 (by decide) ?_
      exact hR _ hf _ _ _ _ dX5_colourOf_59 hP hD hS
  · have hf := oI_f hc1 hf
    refine lv_iload_n hx hb dX5_colourOf_40 rfl (lv_at hl 0 rfl) ?_
    refine lv_if_eq (tgt := 48) hx hb dX5_colourOf_41 (by decide) (fun hc3 => ?_) (fun hc3 => ?_)
    · have hf := oI_t hc3 hf
      refine lv_iconst (v := (0 : Int32)) hx hb dX5_colourOf_48 (by decide) ?_
      exact hR _ hf _ _ _ _ dX5_colourOf_49 hP hD hS
    · have hf := oI_f hc3 hf
      refine lv_iconst (v := (2 : Int32)) hx hb dX5_colourOf_44 (by decide) ?_
      refine lv_goto (tgt := 49) hx hb dX5_colourOf_45 (by decide) ?_
      exact hR _ hf _ _ _ _ dX5_colourOf_49 hP hD hS
set_option maxHeartbeats 4000000 in
set_option maxRecDepth 100000 in
theorem w_X5_colourOf_17 {p : Program} {l : Launch} {e : Env} {s : State} {m : MethodId} {args : Array Value} {below : List Frame} {meth : Method} {c : Code} {Q : State → Prop} {A : Nat → Prop} {G : va_G} {cI cJ cZ cO : ClassId} {tS : Nat} (a_this : Nat) (u_cells_ : Value) (u_clauses_ : Value) (u_count_ : Value) (lettersOfA_ : Int32) (lettersOfB_ : Int32) (hA : ∀ q : Nat, s.heap.size ≤ q → A q) (hK : va_K G vwCl (xTY cI cJ cZ cO) s) (hZ : xST tS A s) (M : CallFix p m c cX5_colourOf 4 s args wsX5_colourOf RX5) (res : Int32) (hR : RT_X5_colourOf p l e s m args below meth c Q A G cI cJ cZ cO a_this u_cells_ u_clauses_ u_count_ lettersOfA_ lettersOfB_ res) (x1_ : Int32) (s0_ : Int32)  (hf : f_X5_colourOf_17 lettersOfB_ x1_ s0_ = some res) {H : Heap} {locs : List Loc} {ls : Array Slot} (hP : va_P G vwCl [(a_this, .inr (5, [u_cells_, u_clauses_, u_count_, .int lettersOfA_, .int lettersOfB_]))] H) (hD : va_D A [(a_this, .inr (5, [u_cells_, u_clauses_, u_count_, .int lettersOfA_, .int lettersOfB_]))]) (hS : va_S A s.heap H locs) (hl : lv_has ls 4 [(0, .ref a_this), (1, .int x1_)]) : W p l e ({ frames := 0, cells := 0, slots := 0, locals := 0 } : Room) s m args below meth c H locs 0 0 Q (F0 m 17 ls [.int s0_]) := by
  obtain ⟨hx, hb, hml, hown, hts⟩ := id M
  unfold f_X5_colourOf_17 at hf
  refine lv_istore_n (lv' := [(2, .int s0_), (0, .ref a_this), (1, .int x1_)]) hx hb dX5_colourOf_17 rfl hl (by decide) rfl (fun ls hl => ?_)
  refine lv_aload_n hx hb dX5_colourOf_18 rfl (lv_at hl 1 rfl) ?_
  refine xget M (C := RX5) (T := TX5) (N := 5) (ci := 5) (v := .int lettersOfB_) uw_X5_colourOf_X5 hK hP 0 rfl rfl 4 (by decide) fl_X5_colourOf_25 rfl rfl dX5_colourOf_19 ?_
  refine lv_iload_n hx hb dX5_colourOf_22 rfl (lv_at hl 2 rfl) ?_
  refine lv_ishr hx hb dX5_colourOf_23 ?_
  refine lv_iconst (v := (1 : Int32)) hx hb dX5_colourOf_24 (by decide) ?_
  refine lv_iand hx hb dX5_colourOf_25 ?_
  refine lv_iconst (v := (1 : Int32)) hx hb dX5_colourOf_26 (by decide) ?_
  refine lv_icmp_ne (tgt := 34) hx hb dX5_colourOf_27 (by decide) (fun hc1 => ?_) (fun hc1 => ?_)
  · have hf := oI_f hc1 hf
    refine lv_iconst (v := (0 : Int32)) hx hb dX5_colourOf_34 (by decide) ?_
    exact w_X5_colourOf_35 a_this u_cells_ u_clauses_ u_count_ lettersOfA_ lettersOfB_ hA hK hZ M res hR s0_ (0 : Int32)  hf hP hD hS (lv_sub hl [0] rfl)
  · have hf := oI_t hc1 hf
    refine lv_iconst (v := (1 : Int32)) hx hb dX5_colourOf_30 (by decide) ?_
    refine lv_goto (tgt := 35) hx hb dX5_colourOf_31 (by decide) ?_
    exact w_X5_colourOf_35 a_this u_cells_ u_clauses_ u_count_ lettersOfA_ lettersOfB_ hA hK hZ M res hR s0_ (1 : Int32)  hf hP hD hS (lv_sub hl [0] rfl)
set_option maxHeartbeats 4000000 in
set_option maxRecDepth 100000 in
theorem w_X5_colourOf_0 {p : Program} {l : Launch} {e : Env} {s : State} {m : MethodId} {args : Array Value} {below : List Frame} {meth : Method} {c : Code} {Q : State → Prop} {A : Nat → Prop} {G : va_G} {cI cJ cZ cO : ClassId} {tS : Nat} (a_this : Nat) (u_cells_ : Value) (u_clauses_ : Value) (u_count_ : Value) (lettersOfA_ : Int32) (lettersOfB_ : Int32) (hA : ∀ q : Nat, s.heap.size ≤ q → A q) (hK : va_K G vwCl (xTY cI cJ cZ cO) s) (hZ : xST tS A s) (M : CallFix p m c cX5_colourOf 4 s args wsX5_colourOf RX5) (res : Int32) (hR : RT_X5_colourOf p l e s m args below meth c Q A G cI cJ cZ cO a_this u_cells_ u_clauses_ u_count_ lettersOfA_ lettersOfB_ res)  (x1_ : Int32) (hf : f_X5_colourOf lettersOfA_ lettersOfB_ x1_ = some res) {H : Heap} {locs : List Loc} {ls : Array Slot} (hP : va_P G vwCl [(a_this, .inr (5, [u_cells_, u_clauses_, u_count_, .int lettersOfA_, .int lettersOfB_]))] H) (hD : va_D A [(a_this, .inr (5, [u_cells_, u_clauses_, u_count_, .int lettersOfA_, .int lettersOfB_]))]) (hS : va_S A s.heap H locs) (hl : lv_has ls 4 [(0, .ref a_this), (1, .int x1_)]) : W p l e ({ frames := 0, cells := 0, slots := 0, locals := 0 } : Room) s m args below meth c H locs 0 0 Q (F0 m 0 ls []) := by
  obtain ⟨hx, hb, hml, hown, hts⟩ := id M
  unfold f_X5_colourOf at hf
  refine lv_aload_n hx hb dX5_colourOf_0 rfl (lv_at hl 0 rfl) ?_
  refine xget M (C := RX5) (T := TX5) (N := 5) (ci := 5) (v := .int lettersOfA_) uw_X5_colourOf_X5 hK hP 0 rfl rfl 3 (by decide) fl_X5_colourOf_22 rfl rfl dX5_colourOf_1 ?_
  refine lv_iload_n hx hb dX5_colourOf_4 rfl (lv_at hl 1 rfl) ?_
  refine lv_ishr hx hb dX5_colourOf_5 ?_
  refine lv_iconst (v := (1 : Int32)) hx hb dX5_colourOf_6 (by decide) ?_
  refine lv_iand hx hb dX5_colourOf_7 ?_
  refine lv_iconst (v := (1 : Int32)) hx hb dX5_colourOf_8 (by decide) ?_
  refine lv_icmp_ne (tgt := 16) hx hb dX5_colourOf_9 (by decide) (fun hc1 => ?_) (fun hc1 => ?_)
  · have hf := oI_f hc1 hf
    refine lv_iconst (v := (0 : Int32)) hx hb dX5_colourOf_16 (by decide) ?_
    exact w_X5_colourOf_17 a_this u_cells_ u_clauses_ u_count_ lettersOfA_ lettersOfB_ hA hK hZ M res hR x1_ (0 : Int32)  hf hP hD hS (lv_sub hl [0, 1] rfl)
  · have hf := oI_t hc1 hf
    refine lv_iconst (v := (1 : Int32)) hx hb dX5_colourOf_12 (by decide) ?_
    refine lv_goto (tgt := 17) hx hb dX5_colourOf_13 (by decide) ?_
    exact w_X5_colourOf_17 a_this u_cells_ u_clauses_ u_count_ lettersOfA_ lettersOfB_ hA hK hZ M res hR x1_ (1 : Int32)  hf hP hD hS (lv_sub hl [0, 1] rfl)
set_option maxHeartbeats 4000000 in
set_option maxRecDepth 100000 in
theorem c_X5_colourOf (l : Launch) (G : va_G) (cI cJ cZ cO : ClassId) (tS sz : Nat) (a_this : Nat) (u_cells_ : Value) (u_clauses_ : Value) (u_count_ : Value) (lettersOfA_ : Int32) (lettersOfB_ : Int32) (x1_ : Int32) (v_ : Int32) (hf : f_X5_colourOf lettersOfA_ lettersOfB_ x1_ = some v_) : Met l yX5_colourOf wsX5_colourOf ({ frames := 0, cells := 0, slots := 0, locals := 0 } : Room) (xPre G (xTY cI cJ cZ cO) tS [(a_this, .inr (5, [u_cells_, u_clauses_, u_count_, .int lettersOfA_, .int lettersOfB_]))] sz [.ref a_this, .int x1_]) (xQi G [(a_this, .inr (5, [u_cells_, u_clauses_, u_count_, .int lettersOfA_, .int lettersOfB_]))] sz (fun _ : Unit => [(a_this, .inr (5, [u_cells_, u_clauses_, u_count_, .int lettersOfA_, .int lettersOfB_]))]) v_) 0 0 (va_A [(a_this, .inr (5, [u_cells_, u_clauses_, u_count_, .int lettersOfA_, .int lettersOfB_]))] sz) := by
  refine xMet (cc := cX5_colourOf) (maxL := 4) (ret := (some .int)) (own := RX5) (by decide +kernel) rfl rfl (Nat.le_of_ble_eq_true rfl) rfl ?_
  intro p e s m below meth c ls M hr hlk hin hsz hA hK hZ hP hD hl
  refine w_X5_colourOf_0 a_this u_cells_ u_clauses_ u_count_ lettersOfA_ lettersOfB_ hA hK hZ M v_ (fun v_' hres H locs ls pc hd hP hD hS => ?_)  x1_ hf hP hD va_S.rf hl
  cases hres
  exact xreti (W1 := fun _ : Unit => [(a_this, .inr (5, [u_cells_, u_clauses_, u_count_, .int lettersOfA_, .int lettersOfB_]))]) M hr hlk () hP hD hS hd
