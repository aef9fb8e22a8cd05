/-! BetweenBoth$Sentence.ofStep(LBetweenBoth$Steps;III)J -/
theorem uw_X4_ofStep_X4 : ∀ w ∈ u_ws RX4 TX4 2, w ∈ wsX4_ofStep := by decide +kernel
theorem fl_X4_ofStep_11 : Cond.fieldLink RX4 11 "BetweenBoth$Sentence" (TX4 0).2.1 (TX4 0).2.2.1 ∈ wsX4_ofStep := by decide +kernel
theorem kc_X4_ofStep_37 : Cond.constantLong RX4 37 (-1) ∈ wsX4_ofStep := by decide +kernel
theorem hd_X4_ofStep : yX4_ofStep.cls = RX4 ∧ yX4_ofStep.cls ≠ "java/lang/invoke/MethodHandle" ∧ yX4_ofStep.cls ≠ "java/lang/invoke/VarHandle" ∧ (parseMethodDescriptor yX4_ofStep.desc).map (fun d => d.parameters.length) = some 4 := by decide +kernel
def RT_X4_ofStep (p : Program) (l : Launch) (e : Env) (s : State) (m : MethodId) (args : Array Value) (below : List Frame) (meth : Method) (c : Code) (Q : State → Prop) (A : Nat → Prop) (G : va_G) (cI cJ cZ cO : ClassId) (a_this : Nat) (a_words : Nat) (a_p1 : Nat) (a_p1_cells : Nat) (u_base_ : Value) (u_p1_clauses_ : Value) (u_p1_count_ : Value) (words_ : (Nat → Int64)) (p1_lettersOfA_ : Int32) (p1_lettersOfB_ : Int32) (p1_cells_ : (Nat → Int32)) (res : Int64) : Prop := ∀ (v_ : Int64), some v_ = some res → ∀ (H : Heap) (locs : List Loc) (ls : Array Slot) (pc : Nat), decode cX4_ofStep pc = .ok (.lreturn, 1) → va_P G vwCl [(a_this, .inr (4, [.ref a_words, u_base_])), (a_words, .inl (cJ, 160, .inr (.inl words_))), (a_p1, .inr (5, [.ref a_p1_cells, u_p1_clauses_, u_p1_count_, .int p1_lettersOfA_, .int p1_lettersOfB_])), (a_p1_cells, .inl (cI, 320, .inl p1_cells_))] H → va_D A [(a_this, .inr (4, [.ref a_words, u_base_])), (a_words, .inl (cJ, 160, .inr (.inl words_))), (a_p1, .inr (5, [.ref a_p1_cells, u_p1_clauses_, u_p1_count_, .int p1_lettersOfA_, .int p1_lettersOfB_])), (a_p1_cells, .inl (cI, 320, .inl p1_cells_))] → va_S A s.heap H locs → W p l e ({ frames := 1, cells := 0, slots := 0, locals := 23 } : Room) s m args below meth c H locs 0 0 Q (F0 m pc ls [.long v_])
set_option maxHeartbeats 4000000 in
set_option maxRecDepth 100000 in
theorem w_X4_ofStep_117 {p : Program} {l : Launch} {e : Env} {s : State} {m : MethodId} {args : Array Value} {below : List Frame} {meth : Method} {c : Code} {Q : State → Prop} {A : Nat → Prop} {G : va_G} {cI cJ cZ cO : ClassId} {tS : Nat} (a_this : Nat) (a_words : Nat) (a_p1 : Nat) (a_p1_cells : Nat) (u_base_ : Value) (u_p1_clauses_ : Value) (u_p1_count_ : Value) (words_ : (Nat → Int64)) (p1_lettersOfA_ : Int32) (p1_lettersOfB_ : Int32) (p1_cells_ : (Nat → Int32)) (hA : ∀ q : Nat, s.heap.size ≤ q → A q) (hK : va_K G vwCl (xTY cI cJ cZ cO) s) (hZ : xST tS A s) (M : CallFix p m c cX4_ofStep 13 s args wsX4_ofStep RX4) (res : Int64) (hR : RT_X4_ofStep p l e s m args below meth c Q A G cI cJ cZ cO a_this a_words a_p1 a_p1_cells u_base_ u_p1_clauses_ u_p1_count_ words_ p1_lettersOfA_ p1_lettersOfB_ p1_cells_ res) (x5_ : Int64) (x7_ : Int64) (s0_ : Int32)  (hf : f_X4_ofStep_117 x5_ x7_ s0_ = some res) {H : Heap} {locs : List Loc} {ls : Array Slot} (hP : va_P G vwCl [(a_this, .inr (4, [.ref a_words, u_base_])), (a_words, .inl (cJ, 160, .inr (.inl words_))), (a_p1, .inr (5, [.ref a_p1_cells, u_p1_clauses_, u_p1_count_, .int p1_lettersOfA_, .int p1_lettersOfB_])), (a_p1_cells, .inl (cI, 320, .inl p1_cells_))] H) (hD : va_D A [(a_this, .inr (4, [.ref a_words, u_base_])), (a_words, .inl (cJ, 160, .inr (.inl words_))), (a_p1, .inr (5, [.ref a_p1_cells, u_p1_clauses_, u_p1_count_, .int p1_lettersOfA_, .int p1_lettersOfB_])), (a_p1_cells, .inl (cI, 320, .inl p1_cells_))]) (hS : va_S A s.heap H locs) (hl : lv_has ls 13 [(5, .long x5_), (7, .long x7_)]) : W p l e ({ frames := 1, cells := 0, slots := 0, locals := 23 } : Room) s m args below meth c H locs 0 0 Q (F0 m 117 ls [.int s0_]) := by
  obtain ⟨hx, hb, hml, hown, hts⟩ := id M
  unfold f_X4_ofStep_117 at hf
  refine lv_istore (lv' := [(11, .int s0_), (5, .long x5_), (7, .long x7_)]) hx hb dX4_ofStep_117 hl (by decide) rfl (fun ls hl => ?_)
  refine lv_iload hx hb dX4_ofStep_119 (lv_at hl 0 rfl) ?_
  refine lv_if_eq (tgt := 132) hx hb dX4_ofStep_121 (by decide) (fun hc1 => ?_) (fun hc1 => ?_)
  · have hf := oI_t hc1 hf
    refine lv_lload hx hb dX4_ofStep_132 (lv_at hl 1 rfl) ?_
    refine lv_lload hx hb dX4_ofStep_134 (lv_at hl 2 rfl) ?_
    refine lv_land hx hb dX4_ofStep_136 ?_
    exact hR _ hf _ _ _ _ dX4_ofStep_137 hP hD hS
  · have hf := oI_f hc1 hf
    refine lv_lload hx hb dX4_ofStep_124 (lv_at hl 1 rfl) ?_
    refine lv_lload hx hb dX4_ofStep_126 (lv_at hl 2 rfl) ?_
    refine lv_lor hx hb dX4_ofStep_128 ?_
    refine lv_goto (tgt := 137) hx hb dX4_ofStep_129 (by decide) ?_
    exact hR _ hf _ _ _ _ dX4_ofStep_137 hP hD hS
set_option maxHeartbeats 4000000 in
set_option maxRecDepth 100000 in
theorem w_X4_ofStep_88 {p : Program} {l : Launch} {e : Env} {s : State} {m : MethodId} {args : Array Value} {below : List Frame} {meth : Method} {c : Code} {Q : State → Prop} {A : Nat → Prop} {G : va_G} {cI cJ cZ cO : ClassId} {tS : Nat} (a_this : Nat) (a_words : Nat) (a_p1 : Nat) (a_p1_cells : Nat) (u_base_ : Value) (u_p1_clauses_ : Value) (u_p1_count_ : Value) (words_ : (Nat → Int64)) (p1_lettersOfA_ : Int32) (p1_lettersOfB_ : Int32) (p1_cells_ : (Nat → Int32)) (hA : ∀ q : Nat, s.heap.size ≤ q → A q) (hK : va_K G vwCl (xTY cI cJ cZ cO) s) (hZ : xST tS A s) (M : CallFix p m c cX4_ofStep 13 s args wsX4_ofStep RX4) (res : Int64) (hR : RT_X4_ofStep p l e s m args below meth c Q A G cI cJ cZ cO a_this a_words a_p1 a_p1_cells u_base_ u_p1_clauses_ u_p1_count_ words_ p1_lettersOfA_ p1_lettersOfB_ p1_cells_ res) (x2_ : Int32) (x5_ : Int64) (x7_ : Int64) (x10_ : Int32)  (hf : f_X4_ofStep_88 x2_ x5_ x7_ x10_ = some res) {H : Heap} {locs : List Loc} {ls : Array Slot} (hP : va_P G vwCl [(a_this, .inr (4, [.ref a_words, u_base_])), (a_words, .inl (cJ, 160, .inr (.inl words_))), (a_p1, .inr (5, [.ref a_p1_cells, u_p1_clauses_, u_p1_count_, .int p1_lettersOfA_, .int p1_lettersOfB_])), (a_p1_cells, .inl (cI, 320, .inl p1_cells_))] H) (hD : va_D A [(a_this, .inr (4, [.ref a_words, u_base_])), (a_words, .inl (cJ, 160, .inr (.inl words_))), (a_p1, .inr (5, [.ref a_p1_cells, u_p1_clauses_, u_p1_count_, .int p1_lettersOfA_, .int p1_lettersOfB_])), (a_p1_cells, .inl (cI, 320, .inl p1_cells_))]) (hS : va_S A s.heap H locs) (hl : lv_has ls 13 [(2, .int x2_), (5, .long x5_), (7, .long x7_), (10, .int x10_)]) : W p l e ({ frames := 1, cells := 0, slots := 0, locals := 23 } : Room) s m args below meth c H locs 0 0 Q (F0 m 88 ls []) := by
  obtain ⟨hx, hb, hml, hown, hts⟩ := id M
  unfold f_X4_ofStep_88 at hf
  refine lv_iload_n hx hb dX4_ofStep_88 rfl (lv_at hl 0 rfl) ?_
  refine lv_iconst (v := (2 : Int32)) hx hb dX4_ofStep_89 (by decide) ?_
  refine lv_icmp_ne (tgt := 107) hx hb dX4_ofStep_90 (by decide) (fun hc1 => ?_) (fun hc1 => ?_)
  · have hf := oI_f hc1 hf
    refine lv_iload hx hb dX4_ofStep_107 (lv_at hl 3 rfl) ?_
    refine lv_if_ne (tgt := 116) hx hb dX4_ofStep_109 (by decide) (fun hc2 => ?_) (fun hc2 => ?_)
    · have hf := oI_f hc2 hf
      refine lv_iconst (v := (0 : Int32)) hx hb dX4_ofStep_116 (by decide) ?_
      exact w_X4_ofStep_117 a_this a_words a_p1 a_p1_cells u_base_ u_p1_clauses_ u_p1_count_ words_ p1_lettersOfA_ p1_lettersOfB_ p1_cells_ hA hK hZ M res hR x5_ x7_ (0 : Int32)  hf hP hD hS (lv_sub hl [1, 2] rfl)
    · have hf := oI_t hc2 hf
      refine lv_iconst (v := (1 : Int32)) hx hb dX4_ofStep_112 (by decide) ?_
      refine lv_goto (tgt := 117) hx hb dX4_ofStep_113 (by decide) ?_
      exact w_X4_ofStep_117 a_this a_words a_p1 a_p1_cells u_base_ u_p1_clauses_ u_p1_count_ words_ p1_lettersOfA_ p1_lettersOfB_ p1_cells_ hA hK hZ M res hR x5_ x7_ (1 : Int32)  hf hP hD hS (lv_sub hl [1, 2] rfl)
  · have hf := oI_t hc1 hf
    refine lv_iload hx hb dX4_ofStep_93 (lv_at hl 3 rfl) ?_
    refine lv_iconst (v := (1 : Int32)) hx hb dX4_ofStep_95 (by decide) ?_
    refine lv_icmp_eq (tgt := 103) hx hb dX4_ofStep_96 (by decide) (fun hc3 => ?_) (fun hc3 => ?_)
    · have hf := oI_t hc3 hf
      refine lv_iconst (v := (0 : Int32)) hx hb dX4_ofStep_103 (by decide) ?_
      refine lv_goto (tgt := 117) hx hb dX4_ofStep_104 (by decide) ?_
      exact w_X4_ofStep_117 a_this a_words a_p1 a_p1_cells u_base_ u_p1_clauses_ u_p1_count_ words_ p1_lettersOfA_ p1_lettersOfB_ p1_cells_ hA hK hZ M res hR x5_ x7_ (0 : Int32)  hf hP hD hS (lv_sub hl [1, 2] rfl)
    · have hf := oI_f hc3 hf
      refine lv_iconst (v := (1 : Int32)) hx hb dX4_ofStep_99 (by decide) ?_
      refine lv_goto (tgt := 117) hx hb dX4_ofStep_100 (by decide) ?_
      exact w_X4_ofStep_117 a_this a_words a_p1 a_p1_cells u_base_ u_p1_clauses_ u_p1_count_ words_ p1_lettersOfA_ p1_lettersOfB_ p1_cells_ hA hK hZ M res hR x5_ x7_ (1 : Int32)  hf hP hD hS (lv_sub hl [1, 2] rfl)
set_option maxHeartbeats 4000000 in
set_option maxRecDepth 100000 in
theorem w_X4_ofStep_0 {p : Program} {l : Launch} {e : Env} {s : State} {m : MethodId} {args : Array Value} {below : List Frame} {meth : Method} {c : Code} {Q : State → Prop} {A : Nat → Prop} {G : va_G} {cI cJ cZ cO : ClassId} {tS : Nat} (a_this : Nat) (a_words : Nat) (a_p1 : Nat) (a_p1_cells : Nat) (u_base_ : Value) (u_p1_clauses_ : Value) (u_p1_count_ : Value) (words_ : (Nat → Int64)) (p1_lettersOfA_ : Int32) (p1_lettersOfB_ : Int32) (p1_cells_ : (Nat → Int32)) (hA : ∀ q : Nat, s.heap.size ≤ q → A q) (hK : va_K G vwCl (xTY cI cJ cZ cO) s) (hZ : xST tS A s) (M : CallFix p m c cX4_ofStep 13 s args wsX4_ofStep RX4) (res : Int64) (hR : RT_X4_ofStep p l e s m args below meth c Q A G cI cJ cZ cO a_this a_words a_p1 a_p1_cells u_base_ u_p1_clauses_ u_p1_count_ words_ p1_lettersOfA_ p1_lettersOfB_ p1_cells_ res)  (x2_ : Int32) (x3_ : Int32) (x4_ : Int32) (hf : f_X4_ofStep words_ p1_lettersOfA_ p1_lettersOfB_ p1_cells_ x2_ x3_ x4_ = some res) {H : Heap} {locs : List Loc} {ls : Array Slot} (hP : va_P G vwCl [(a_this, .inr (4, [.ref a_words, u_base_])), (a_words, .inl (cJ, 160, .inr (.inl words_))), (a_p1, .inr (5, [.ref a_p1_cells, u_p1_clauses_, u_p1_count_, .int p1_lettersOfA_, .int p1_lettersOfB_])), (a_p1_cells, .inl (cI, 320, .inl p1_cells_))] H) (hD : va_D A [(a_this, .inr (4, [.ref a_words, u_base_])), (a_words, .inl (cJ, 160, .inr (.inl words_))), (a_p1, .inr (5, [.ref a_p1_cells, u_p1_clauses_, u_p1_count_, .int p1_lettersOfA_, .int p1_lettersOfB_])), (a_p1_cells, .inl (cI, 320, .inl p1_cells_))]) (hS : va_S A s.heap H locs) (hl : lv_has ls 13 [(0, .ref a_this), (1, .ref a_p1), (2, .int x2_), (3, .int x3_), (4, .int x4_)]) : W p l e ({ frames := 1, cells := 0, slots := 0, locals := 23 } : Room) s m args below meth c H locs 0 0 Q (F0 m 0 ls []) := by
  obtain ⟨hx, hb, hml, hown, hts⟩ := id M
  unfold f_X4_ofStep at hf
  refine lv_aload_n hx hb dX4_ofStep_0 rfl (lv_at hl 0 rfl) ?_
  refine xget M (C := RX4) (T := TX4) (N := 2) (ci := 4) (v := .ref a_words) uw_X4_ofStep_X4 hK hP 0 rfl rfl 0 (by decide) fl_X4_ofStep_11 rfl rfl dX4_ofStep_1 ?_
  refine lv_aload_n hx hb dX4_ofStep_4 rfl (lv_at hl 1 rfl) ?_
  refine lv_iload_n hx hb dX4_ofStep_5 rfl (lv_at hl 3 rfl) ?_
  refine lv_iconst (v := (3 : Int32)) hx hb dX4_ofStep_6 (by decide) ?_
  obtain ⟨r1, hq2, hf⟩ := oB1_e hf
  refine xci (wr := [(a_this, .inr (4, [.ref a_words, u_base_])), (a_words, .inl (cJ, 160, .inr (.inl words_)))]) (ws' := fun _ => [(a_this, .inr (4, [.ref a_words, u_base_])), (a_words, .inl (cJ, 160, .inr (.inl words_))), (a_p1, .inr (5, [.ref a_p1_cells, u_p1_clauses_, u_p1_count_, .int p1_lettersOfA_, .int p1_lettersOfB_])), (a_p1_cells, .inl (cI, 320, .inl p1_cells_))]) hA hP hD hS (xrV (As := [.int x3_, .int (3 : Int32)]) (rest := [.ref a_words]) M hA hK hZ hP hD hS (c_X5_cell l G cI cJ cZ cO tS H.size a_p1 a_p1_cells (u_p1_clauses_) (u_p1_count_) (.int p1_lettersOfA_) (.int p1_lettersOfB_) p1_cells_ x3_ (3 : Int32) r1 hq2) (cwV 2 hts gX4_ofStep_X5_cell rfl rfl rfl hd_X5_cell ⟨Nat.le_of_ble_eq_true rfl, Nat.le_of_ble_eq_true rfl⟩) [2, 3] rfl rfl 2 rfl rfl rfl hl.1 rfl (Nat.le_of_ble_eq_true rfl) dX4_ofStep_7 ⟨Nat.le_of_ble_eq_true rfl, Nat.le_of_ble_eq_true rfl⟩) [2, 3] [0, 1] [0, 1, 2, 3] rfl rfl rfl rfl (fun _ => rfl) rfl (fun _ H locs hP hD hS => ?_)
  refine lv_iconst (v := (4 : Int32)) hx hb dX4_ofStep_10 (by decide) ?_
  refine lv_imul hx hb dX4_ofStep_11 ?_
  refine lv_iload hx hb dX4_ofStep_12 (lv_at hl 4 rfl) ?_
  refine lv_iadd hx hb dX4_ofStep_14 ?_
  obtain ⟨j3, hj3, hij3, hf⟩ := oA_e hf
  refine xlald M hK hP 1 1 rfl rfl hj3 hij3 dX4_ofStep_15 ?_
  obtain ⟨x5_4, ex5_4, hf⟩ := oL_e hf
  refine xtopl ex5_4 ?_
  refine lv_lstore (lv' := [(5, .long x5_4), (0, .ref a_this), (1, .ref a_p1), (2, .int x2_), (3, .int x3_), (4, .int x4_)]) hx hb dX4_ofStep_16 hl (by decide) rfl (fun ls hl => ?_)
  refine lv_aload_n hx hb dX4_ofStep_18 rfl (lv_at hl 1 rfl) ?_
  refine xget M (C := RX4) (T := TX4) (N := 2) (ci := 4) (v := .ref a_words) uw_X4_ofStep_X4 hK hP 0 rfl rfl 0 (by decide) fl_X4_ofStep_11 rfl rfl dX4_ofStep_19 ?_
  refine lv_aload_n hx hb dX4_ofStep_22 rfl (lv_at hl 2 rfl) ?_
  refine lv_iload_n hx hb dX4_ofStep_23 rfl (lv_at hl 4 rfl) ?_
  refine lv_iconst (v := (4 : Int32)) hx hb dX4_ofStep_24 (by decide) ?_
  obtain ⟨r5, hq6, hf⟩ := oB1_e hf
  refine xci (wr := [(a_this, .inr (4, [.ref a_words, u_base_])), (a_words, .inl (cJ, 160, .inr (.inl words_)))]) (ws' := fun _ => [(a_this, .inr (4, [.ref a_words, u_base_])), (a_words, .inl (cJ, 160, .inr (.inl words_))), (a_p1, .inr (5, [.ref a_p1_cells, u_p1_clauses_, u_p1_count_, .int p1_lettersOfA_, .int p1_lettersOfB_])), (a_p1_cells, .inl (cI, 320, .inl p1_cells_))]) hA hP hD hS (xrV (As := [.int x3_, .int (4 : Int32)]) (rest := [.ref a_words]) M hA hK hZ hP hD hS (c_X5_cell l G cI cJ cZ cO tS H.size a_p1 a_p1_cells (u_p1_clauses_) (u_p1_count_) (.int p1_lettersOfA_) (.int p1_lettersOfB_) p1_cells_ x3_ (4 : Int32) r5 hq6) (cwV 2 hts gX4_ofStep_X5_cell rfl rfl rfl hd_X5_cell ⟨Nat.le_of_ble_eq_true rfl, Nat.le_of_ble_eq_true rfl⟩) [2, 3] rfl rfl 2 rfl rfl rfl hl.1 rfl (Nat.le_of_ble_eq_true rfl) dX4_ofStep_25 ⟨Nat.le_of_ble_eq_true rfl, Nat.le_of_ble_eq_true rfl⟩) [2, 3] [0, 1] [0, 1, 2, 3] rfl rfl rfl rfl (fun _ => rfl) rfl (fun _ H locs hP hD hS => ?_)
  refine lv_iconst (v := (4 : Int32)) hx hb dX4_ofStep_28 (by decide) ?_
  refine lv_imul hx hb dX4_ofStep_29 ?_
  refine lv_iload hx hb dX4_ofStep_30 (lv_at hl 5 rfl) ?_
  refine lv_iadd hx hb dX4_ofStep_32 ?_
  obtain ⟨j7, hj7, hij7, hf⟩ := oA_e hf
  refine xlald M hK hP 1 1 rfl rfl hj7 hij7 dX4_ofStep_33 ?_
  obtain ⟨x7_8, ex7_8, hf⟩ := oL_e hf
  refine xtopl ex7_8 ?_
  refine lv_lstore (lv' := [(7, .long x7_8), (5, .long x5_4), (0, .ref a_this), (1, .ref a_p1), (2, .int x2_), (3, .int x3_), (4, .int x4_)]) hx hb dX4_ofStep_34 hl (by decide) rfl (fun ls hl => ?_)
  refine lv_aload_n hx hb dX4_ofStep_36 rfl (lv_at hl 3 rfl) ?_
  refine lv_iload_n hx hb dX4_ofStep_37 rfl (lv_at hl 5 rfl) ?_
  refine lv_iconst (v := (5 : Int32)) hx hb dX4_ofStep_38 (by decide) ?_
  obtain ⟨r9, hq10, hf⟩ := oB1_e hf
  refine xci (wr := [(a_this, .inr (4, [.ref a_words, u_base_])), (a_words, .inl (cJ, 160, .inr (.inl words_)))]) (ws' := fun _ => [(a_this, .inr (4, [.ref a_words, u_base_])), (a_words, .inl (cJ, 160, .inr (.inl words_))), (a_p1, .inr (5, [.ref a_p1_cells, u_p1_clauses_, u_p1_count_, .int p1_lettersOfA_, .int p1_lettersOfB_])), (a_p1_cells, .inl (cI, 320, .inl p1_cells_))]) hA hP hD hS (xrV (As := [.int x3_, .int (5 : Int32)]) (rest := []) M hA hK hZ hP hD hS (c_X5_cell l G cI cJ cZ cO tS H.size a_p1 a_p1_cells (u_p1_clauses_) (u_p1_count_) (.int p1_lettersOfA_) (.int p1_lettersOfB_) p1_cells_ x3_ (5 : Int32) r9 hq10) (cwV 2 hts gX4_ofStep_X5_cell rfl rfl rfl hd_X5_cell ⟨Nat.le_of_ble_eq_true rfl, Nat.le_of_ble_eq_true rfl⟩) [2, 3] rfl rfl 2 rfl rfl rfl hl.1 rfl (Nat.le_of_ble_eq_true rfl) dX4_ofStep_39 ⟨Nat.le_of_ble_eq_true rfl, Nat.le_of_ble_eq_true rfl⟩) [2, 3] [0, 1] [0, 1, 2, 3] rfl rfl rfl rfl (fun _ => rfl) rfl (fun _ H locs hP hD hS => ?_)
  refine lv_istore (lv' := [(9, .int r9), (7, .long x7_8), (5, .long x5_4), (0, .ref a_this), (1, .ref a_p1), (2, .int x2_), (3, .int x3_), (4, .int x4_)]) hx hb dX4_ofStep_42 hl (by decide) rfl (fun ls hl => ?_)
  refine lv_aload_n hx hb dX4_ofStep_44 rfl (lv_at hl 4 rfl) ?_
  refine lv_iload hx hb dX4_ofStep_45 (lv_at hl 0 rfl) ?_
  obtain ⟨r11, hq12, hf⟩ := oB1_e hf
  refine xci (wr := [(a_this, .inr (4, [.ref a_words, u_base_])), (a_words, .inl (cJ, 160, .inr (.inl words_))), (a_p1_cells, .inl (cI, 320, .inl p1_cells_))]) (ws' := fun _ => [(a_this, .inr (4, [.ref a_words, u_base_])), (a_words, .inl (cJ, 160, .inr (.inl words_))), (a_p1, .inr (5, [.ref a_p1_cells, u_p1_clauses_, u_p1_count_, .int p1_lettersOfA_, .int p1_lettersOfB_])), (a_p1_cells, .inl (cI, 320, .inl p1_cells_))]) hA hP hD hS (xrV (As := [.int r9]) (rest := []) M hA hK hZ hP hD hS (c_X5_colourOf l G cI cJ cZ cO tS H.size a_p1 (.ref a_p1_cells) (u_p1_clauses_) (u_p1_count_) p1_lettersOfA_ p1_lettersOfB_ r9 r11 hq12) (cwV 1 hts gX4_ofStep_X5_colourOf rfl rfl rfl hd_X5_colourOf ⟨Nat.le_of_ble_eq_true rfl, Nat.le_of_ble_eq_true rfl⟩) [2] rfl rfl 2 rfl rfl rfl hl.1 rfl (Nat.le_of_ble_eq_true rfl) dX4_ofStep_47 ⟨Nat.le_of_ble_eq_true rfl, Nat.le_of_ble_eq_true rfl⟩) [2] [0, 1, 3] [0, 1, 3, 2] rfl rfl rfl rfl (fun _ => rfl) rfl (fun _ H locs hP hD hS => ?_)
  refine lv_istore (lv' := [(10, .int r11), (9, .int r9), (7, .long x7_8), (5, .long x5_4), (0, .ref a_this), (1, .ref a_p1), (2, .int x2_), (3, .int x3_), (4, .int x4_)]) hx hb dX4_ofStep_50 hl (by decide) rfl (fun ls hl => ?_)
  refine lv_iload_n hx hb dX4_ofStep_52 rfl (lv_at hl 6 rfl) ?_
  refine lv_iconst (v := (1 : Int32)) hx hb dX4_ofStep_53 (by decide) ?_
  refine lv_icmp_ne (tgt := 88) hx hb dX4_ofStep_54 (by decide) (fun hc13 => ?_) (fun hc13 => ?_)
  · have hf := oI_f hc13 hf
    exact w_X4_ofStep_88 a_this a_words a_p1 a_p1_cells u_base_ u_p1_clauses_ u_p1_count_ words_ p1_lettersOfA_ p1_lettersOfB_ p1_cells_ hA hK hZ M res hR x2_ x5_4 x7_8 r11  hf hP hD hS (lv_sub hl [6, 3, 2, 0] rfl)
  · have hf := oI_t hc13 hf
    refine lv_iload hx hb dX4_ofStep_57 (lv_at hl 0 rfl) ?_
    refine lv_iconst (v := (2 : Int32)) hx hb dX4_ofStep_59 (by decide) ?_
    refine lv_icmp_ne (tgt := 88) hx hb dX4_ofStep_60 (by decide) (fun hc14 => ?_) (fun hc14 => ?_)
    · have hf := oI_f hc14 hf
      exact w_X4_ofStep_88 a_this a_words a_p1 a_p1_cells u_base_ u_p1_clauses_ u_p1_count_ words_ p1_lettersOfA_ p1_lettersOfB_ p1_cells_ hA hK hZ M res hR x2_ x5_4 x7_8 r11  hf hP hD hS (lv_sub hl [6, 3, 2, 0] rfl)
    · have hf := oI_t hc14 hf
      refine lv_iload hx hb dX4_ofStep_63 (lv_at hl 1 rfl) ?_
      refine lv_iload hx hb dX4_ofStep_65 (lv_at hl 8 rfl) ?_
      obtain ⟨r15, hq16, hf⟩ := oB1_e hf
      refine xcl (wr := [(a_this, .inr (4, [.ref a_words, u_base_])), (a_words, .inl (cJ, 160, .inr (.inl words_))), (a_p1, .inr (5, [.ref a_p1_cells, u_p1_clauses_, u_p1_count_, .int p1_lettersOfA_, .int p1_lettersOfB_])), (a_p1_cells, .inl (cI, 320, .inl p1_cells_))]) (ws' := fun _ => [(a_this, .inr (4, [.ref a_words, u_base_])), (a_words, .inl (cJ, 160, .inr (.inl words_))), (a_p1, .inr (5, [.ref a_p1_cells, u_p1_clauses_, u_p1_count_, .int p1_lettersOfA_, .int p1_lettersOfB_])), (a_p1_cells, .inl (cI, 320, .inl p1_cells_))]) hA hP hD hS (xrS (As := [.int r9, .int x4_]) (rest := []) M hA hK hZ hP hD hS (c_X8_whereSo l G cI cJ cZ cO tS H.size r9 x4_ r15 hq16) (va_cwS 2 hts gX4_ofStep_X8_whereSo rfl rfl rfl hd_X8_whereSo ⟨Nat.le_of_ble_eq_true rfl, Nat.le_of_ble_eq_true rfl⟩) [] rfl rfl rfl hl.1 rfl (Nat.le_of_ble_eq_true rfl) dX4_ofStep_67 ⟨Nat.le_of_ble_eq_true rfl, Nat.le_of_ble_eq_true rfl⟩) [] [0, 1, 2, 3] [0, 1, 2, 3] rfl rfl rfl rfl (fun _ => rfl) rfl (fun _ H locs hP hD hS => ?_)
      refine lv_lstore (lv' := [(11, .long r15), (10, .int r11), (9, .int r9), (7, .long x7_8), (5, .long x5_4), (0, .ref a_this), (1, .ref a_p1), (2, .int x2_), (3, .int x3_), (4, .int x4_)]) hx hb dX4_ofStep_70 hl (by decide) rfl (fun ls hl => ?_)
      refine lv_lload hx hb dX4_ofStep_72 (lv_at hl 0 rfl) ?_
      refine lv_lload hx hb dX4_ofStep_74 (lv_at hl 3 rfl) ?_
      refine lv_land hx hb dX4_ofStep_76 ?_
      refine lv_lload hx hb dX4_ofStep_77 (lv_at hl 0 rfl) ?_
      refine lv_ldc2 (v := (-1)) hx hb hown (hts _ kc_X4_ofStep_37) dX4_ofStep_79 ?_
      refine lv_lxor hx hb dX4_ofStep_82 ?_
      refine lv_lload hx hb dX4_ofStep_83 (lv_at hl 4 rfl) ?_
      refine lv_land hx hb dX4_ofStep_85 ?_
      refine lv_lor hx hb dX4_ofStep_86 ?_
      exact hR _ hf _ _ _ _ dX4_ofStep_87 hP hD hS
set_option maxHeartbeats 4000000 in
set_option maxRecDepth 100000 in
theorem c_X4_ofStep (l : Launch) (G : va_G) (cI cJ cZ cO : ClassId) (tS sz : Nat) (a_this : Nat) (a_words : Nat) (a_p1 : Nat) (a_p1_cells : Nat) (u_base_ : Value) (u_p1_clauses_ : Value) (u_p1_count_ : Value) (words_ : (Nat → Int64)) (p1_lettersOfA_ : Int32) (p1_lettersOfB_ : Int32) (p1_cells_ : (Nat → Int32)) (x2_ : Int32) (x3_ : Int32) (x4_ : Int32) (v_ : Int64) (hf : f_X4_ofStep words_ p1_lettersOfA_ p1_lettersOfB_ p1_cells_ x2_ x3_ x4_ = some v_) : Met l yX4_ofStep wsX4_ofStep ({ frames := 1, cells := 0, slots := 0, locals := 23 } : Room) (xPre G (xTY cI cJ cZ cO) tS [(a_this, .inr (4, [.ref a_words, u_base_])), (a_words, .inl (cJ, 160, .inr (.inl words_))), (a_p1, .inr (5, [.ref a_p1_cells, u_p1_clauses_, u_p1_count_, .int p1_lettersOfA_, .int p1_lettersOfB_])), (a_p1_cells, .inl (cI, 320, .inl p1_cells_))] sz [.ref a_this, .ref a_p1, .int x2_, .int x3_, .int x4_]) (xQl G [(a_this, .inr (4, [.ref a_words, u_base_])), (a_words, .inl (cJ, 160, .inr (.inl words_))), (a_p1, .inr (5, [.ref a_p1_cells, u_p1_clauses_, u_p1_count_, .int p1_lettersOfA_, .int p1_lettersOfB_])), (a_p1_cells, .inl (cI, 320, .inl p1_cells_))] sz (fun _ : Unit => [(a_this, .inr (4, [.ref a_words, u_base_])), (a_words, .inl (cJ, 160, .inr (.inl words_))), (a_p1, .inr (5, [.ref a_p1_cells, u_p1_clauses_, u_p1_count_, .int p1_lettersOfA_, .int p1_lettersOfB_])), (a_p1_cells, .inl (cI, 320, .inl p1_cells_))]) v_) 0 0 (va_A [(a_this, .inr (4, [.ref a_words, u_base_])), (a_words, .inl (cJ, 160, .inr (.inl words_))), (a_p1, .inr (5, [.ref a_p1_cells, u_p1_clauses_, u_p1_count_, .int p1_lettersOfA_, .int p1_lettersOfB_])), (a_p1_cells, .inl (cI, 320, .inl p1_cells_))] sz) := by
  refine xMet (cc := cX4_ofStep) (maxL := 13) (ret := (some .long)) (own := RX4) (by decide +kernel) rfl rfl (Nat.le_of_ble_eq_true rfl) rfl ?_
  intro p e s m below meth c ls M hr hlk hin hsz hA hK hZ hP hD hl
  refine w_X4_ofStep_0 a_this a_words a_p1 a_p1_cells u_base_ u_p1_clauses_ u_p1_count_ words_ p1_lettersOfA_ p1_lettersOfB_ p1_cells_ hA hK hZ M v_ (fun v_' hres H locs ls pc hd hP hD hS => ?_)  x2_ x3_ x4_ hf hP hD va_S.rf hl
  cases hres
  exact xretl (W1 := fun _ : Unit => [(a_this, .inr (4, [.ref a_words, u_base_])), (a_words, .inl (cJ, 160, .inr (.inl words_))), (a_p1, .inr (5, [.ref a_p1_cells, u_p1_clauses_, u_p1_count_, .int p1_lettersOfA_, .int p1_lettersOfB_])), (a_p1_cells, .inl (cI, 320, .inl p1_cells_))]) M hr hlk () hP hD hS hd
/-! BetweenBoth$Sentence.read(LBetweenBoth$Steps;II)V -/
theorem uw_X4_read_X4 : ∀ w ∈ u_ws RX4 TX4 2, w ∈ wsX4_read := by decide +kernel
theorem fl_X4_read_11 : Cond.fieldLink RX4 11 "BetweenBoth$Sentence" (TX4 0).2.1 (TX4 0).2.2.1 ∈ wsX4_read := by decide +kernel
theorem uw_X4_read_X5 : ∀ w ∈ u_ws RX5 TX5 5, w ∈ wsX4_read := by decide +kernel
theorem fl_X4_read_17 : Cond.fieldLink RX4 17 "BetweenBoth$Steps" (TX5 1).2.1 (TX5 1).2.2.1 ∈ wsX4_read := by decide +kernel
theorem fl_X4_read_30 : Cond.fieldLink RX4 30 "BetweenBoth$Sentence" (TX4 1).2.1 (TX4 1).2.2.1 ∈ wsX4_read := by decide +kernel
theorem hd_X4_read : yX4_read.cls = RX4 ∧ yX4_read.cls ≠ "java/lang/invoke/MethodHandle" ∧ yX4_read.cls ≠ "java/lang/invoke/VarHandle" ∧ (parseMethodDescriptor yX4_read.desc).map (fun d => d.parameters.length) = some 3 := by decide +kernel
def RT_X4_read (p : Program) (l : Launch) (e : Env) (s : State) (m : MethodId) (args : Array Value) (below : List Frame) (meth : Method) (c : Code) (Q : State → Prop) (A : Nat → Prop) (G : va_G) (cI cJ cZ cO : ClassId) (a_this : Nat) (a_words : Nat) (a_p1 : Nat) (a_p1_cells : Nat) (u_p1_count_ : Value) (p1_clauses_ : Int32) (p1_lettersOfA_ : Int32) (p1_lettersOfB_ : Int32) (p1_cells_ : (Nat → Int32)) (res : (Nat → Int64) × Int32) : Prop := ∀ (o_words_ : (Nat → Int64)) (o_base_ : Int32), some (o_words_, o_base_) = some res → ∀ (H : Heap) (locs : List Loc) (ls : Array Slot) (pc : Nat), decode cX4_read pc = .ok (.return_, 1) → va_P G vwCl [(a_this, .inr (4, [.ref a_words, .int o_base_])), (a_words, .inl (cJ, 160, .inr (.inl o_words_))), (a_p1, .inr (5, [.ref a_p1_cells, .int p1_clauses_, u_p1_count_, .int p1_lettersOfA_, .int p1_lettersOfB_])), (a_p1_cells, .inl (cI, 320, .inl p1_cells_))] H → va_D A [(a_this, .inr (4, [.ref a_words, .int o_base_])), (a_words, .inl (cJ, 160, .inr (.inl o_words_))), (a_p1, .inr (5, [.ref a_p1_cells, .int p1_clauses_, u_p1_count_, .int p1_lettersOfA_, .int p1_lettersOfB_])), (a_p1_cells, .inl (cI, 320, .inl p1_cells_))] → va_S A s.heap H locs → W p l e ({ frames := 3, cells := 0, slots := 0, locals := 73 } : Room) s m args below meth c H locs 0 0 Q (F0 m pc ls [])
set_option maxHeartbeats 4000000 in
set_option maxRecDepth 100000 in
theorem w_X4_read_60 {p : Program} {l : Launch} {e : Env} {s : State} {m : MethodId} {args : Array Value} {below : List Frame} {meth : Method} {c : Code} {Q : State → Prop} {A : Nat → Prop} {G : va_G} {cI cJ cZ cO : ClassId} {tS : Nat} (a_this : Nat) (a_words : Nat) (a_p1 : Nat) (a_p1_cells : Nat) (u_p1_count_ : Value) (p1_clauses_ : Int32) (p1_lettersOfA_ : Int32) (p1_lettersOfB_ : Int32) (p1_cells_ : (Nat → Int32)) (hA : ∀ q : Nat, s.heap.size ≤ q → A q) (hK : va_K G vwCl (xTY cI cJ cZ cO) s) (hZ : xST tS A s) (M : CallFix p m c cX4_read 6 s args wsX4_read RX4) (res : (Nat → Int64) × Int32) (hR : RT_X4_read p l e s m args below meth c Q A G cI cJ cZ cO a_this a_words a_p1 a_p1_cells u_p1_count_ p1_clauses_ p1_lettersOfA_ p1_lettersOfB_ p1_cells_ res) (base_ : Int32) (words_ : (Nat → Int64)) (x2_ : Int32) (x3_ : Int32) (x4_ : Int32) (x5_ : Int32) (s1_ : Int32) (s2_ : Int64) (k3 : ((Nat → Int64) × Int32) → Option ((Nat → Int64) × Int32)) (hk3 : ∀ (words_ : (Nat → Int64)) (x4_ : Int32), k3 (words_, x4_) = some res → ∀ {H : Heap} {locs : List Loc} {ls : Array Slot}, va_P G vwCl [(a_this, .inr (4, [.ref a_words, .int base_])), (a_words, .inl (cJ, 160, .inr (.inl words_))), (a_p1, .inr (5, [.ref a_p1_cells, .int p1_clauses_, u_p1_count_, .int p1_lettersOfA_, .int p1_lettersOfB_])), (a_p1_cells, .inl (cI, 320, .inl p1_cells_))] H → va_D A [(a_this, .inr (4, [.ref a_words, .int base_])), (a_words, .inl (cJ, 160, .inr (.inl words_))), (a_p1, .inr (5, [.ref a_p1_cells, .int p1_clauses_, u_p1_count_, .int p1_lettersOfA_, .int p1_lettersOfB_])), (a_p1_cells, .inl (cI, 320, .inl p1_cells_))] → va_S A s.heap H locs → lv_has ls 6 [(0, .ref a_this), (1, .ref a_p1), (2, .int x2_), (3, .int x3_), (4, .int x4_)] → W p l e ({ frames := 3, cells := 0, slots := 0, locals := 73 } : Room) s m args below meth c H locs 0 0 Q (F0 m 3 ls [])) (k12 : ((Nat → Int64) × Int32) → Option ((Nat → Int64) × Int32)) (hk12 : ∀ (words_ : (Nat → Int64)) (x5_ : Int32), k12 (words_, x5_) = some res → ∀ {H : Heap} {locs : List Loc} {ls : Array Slot}, va_P G vwCl [(a_this, .inr (4, [.ref a_words, .int base_])), (a_words, .inl (cJ, 160, .inr (.inl words_))), (a_p1, .inr (5, [.ref a_p1_cells, .int p1_clauses_, u_p1_count_, .int p1_lettersOfA_, .int p1_lettersOfB_])), (a_p1_cells, .inl (cI, 320, .inl p1_cells_))] H → va_D A [(a_this, .inr (4, [.ref a_words, .int base_])), (a_words, .inl (cJ, 160, .inr (.inl words_))), (a_p1, .inr (5, [.ref a_p1_cells, .int p1_clauses_, u_p1_count_, .int p1_lettersOfA_, .int p1_lettersOfB_])), (a_p1_cells, .inl (cI, 320, .inl p1_cells_))] → va_S A s.heap H locs → lv_has ls 6 [(0, .ref a_this), (1, .ref a_p1), (2, .int x2_), (3, .int x3_), (4, .int x4_), (5, .int x5_)] → W p l e ({ frames := 3, cells := 0, slots := 0, locals := 73 } : Room) s m args below meth c H locs 0 0 Q (F0 m 12 ls [])) (hf : f_X4_read_60 words_ x5_ s1_ s2_ k12 = some res) {H : Heap} {locs : List Loc} {ls : Array Slot} (hP : va_P G vwCl [(a_this, .inr (4, [.ref a_words, .int base_])), (a_words, .inl (cJ, 160, .inr (.inl words_))), (a_p1, .inr (5, [.ref a_p1_cells, .int p1_clauses_, u_p1_count_, .int p1_lettersOfA_, .int p1_lettersOfB_])), (a_p1_cells, .inl (cI, 320, .inl p1_cells_))] H) (hD : va_D A [(a_this, .inr (4, [.ref a_words, .int base_])), (a_words, .inl (cJ, 160, .inr (.inl words_))), (a_p1, .inr (5, [.ref a_p1_cells, .int p1_clauses_, u_p1_count_, .int p1_lettersOfA_, .int p1_lettersOfB_])), (a_p1_cells, .inl (cI, 320, .inl p1_cells_))]) (hS : va_S A s.heap H locs) (hl : lv_has ls 6 [(0, .ref a_this), (1, .ref a_p1), (2, .int x2_), (3, .int x3_), (4, .int x4_), (5, .int x5_)]) : W p l e ({ frames := 3, cells := 0, slots := 0, locals := 73 } : Room) s m args below meth c H locs 0 0 Q (F0 m 60 ls [.long s2_, .int s1_, .ref a_words]) := by
  obtain ⟨hx, hb, hml, hown, hts⟩ := id M
  unfold f_X4_read_60 at hf
  obtain ⟨j1, hj1, hij1, hf⟩ := oA_e hf
  obtain ⟨words_2, ewords_2, hf⟩ := oL_e hf
  refine xlast M hK hP hD hS 1 1 rfl rfl hj1 hij1 ewords_2 [(a_this, .inr (4, [.ref a_words, .int base_])), (a_words, .inl (cJ, 160, .inr (.inl words_2))), (a_p1, .inr (5, [.ref a_p1_cells, .int p1_clauses_, u_p1_count_, .int p1_lettersOfA_, .int p1_lettersOfB_])), (a_p1_cells, .inl (cI, 320, .inl p1_cells_))] rfl dX4_read_60 (fun H locs hP hD hS => ?_)
  obtain ⟨x5_3, ex5_3, hf⟩ := oL_e hf
  refine lv_iinc (v := x5_3) (lv' := [(5, .int x5_3), (0, .ref a_this), (1, .ref a_p1), (2, .int x2_), (3, .int x3_), (4, .int x4_)]) hx hb dX4_read_61 hl (k := 5) rfl (by rw [← ex5_3]; rfl) (by decide) rfl (fun ls hl => ?_)
  refine lv_goto (tgt := 12) hx hb dX4_read_64 (by decide) ?_
  exact hk12 _ _ hf hP hD hS (lv_sub hl [1, 2, 3, 4, 5, 0] rfl)
set_option maxHeartbeats 4000000 in
set_option maxRecDepth 100000 in
theorem wb_X4_read_12 {p : Program} {l : Launch} {e : Env} {s : State} {m : MethodId} {args : Array Value} {below : List Frame} {meth : Method} {c : Code} {Q : State → Prop} {A : Nat → Prop} {G : va_G} {cI cJ cZ cO : ClassId} {tS : Nat} (a_this : Nat) (a_words : Nat) (a_p1 : Nat) (a_p1_cells : Nat) (u_p1_count_ : Value) (p1_clauses_ : Int32) (p1_lettersOfA_ : Int32) (p1_lettersOfB_ : Int32) (p1_cells_ : (Nat → Int32)) (hA : ∀ q : Nat, s.heap.size ≤ q → A q) (hK : va_K G vwCl (xTY cI cJ cZ cO) s) (hZ : xST tS A s) (M : CallFix p m c cX4_read 6 s args wsX4_read RX4) (res : (Nat → Int64) × Int32) (hR : RT_X4_read p l e s m args below meth c Q A G cI cJ cZ cO a_this a_words a_p1 a_p1_cells u_p1_count_ p1_clauses_ p1_lettersOfA_ p1_lettersOfB_ p1_cells_ res) (base_ : Int32) (x2_ : Int32) (x3_ : Int32) (x4_ : Int32) (k3 : ((Nat → Int64) × Int32) → Option ((Nat → Int64) × Int32)) (hk3 : ∀ (words_ : (Nat → Int64)) (x4_ : Int32), k3 (words_, x4_) = some res → ∀ {H : Heap} {locs : List Loc} {ls : Array Slot}, va_P G vwCl [(a_this, .inr (4, [.ref a_words, .int base_])), (a_words, .inl (cJ, 160, .inr (.inl words_))), (a_p1, .inr (5, [.ref a_p1_cells, .int p1_clauses_, u_p1_count_, .int p1_lettersOfA_, .int p1_lettersOfB_])), (a_p1_cells, .inl (cI, 320, .inl p1_cells_))] H → va_D A [(a_this, .inr (4, [.ref a_words, .int base_])), (a_words, .inl (cJ, 160, .inr (.inl words_))), (a_p1, .inr (5, [.ref a_p1_cells, .int p1_clauses_, u_p1_count_, .int p1_lettersOfA_, .int p1_lettersOfB_])), (a_p1_cells, .inl (cI, 320, .inl p1_cells_))] → va_S A s.heap H locs → lv_has ls 6 [(0, .ref a_this), (1, .ref a_p1), (2, .int x2_), (3, .int x3_), (4, .int x4_)] → W p l e ({ frames := 3, cells := 0, slots := 0, locals := 73 } : Room) s m args below meth c H locs 0 0 Q (F0 m 3 ls [])) (k12 : ((Nat → Int64) × Int32) → Option ((Nat → Int64) × Int32)) (hk12 : ∀ (words_ : (Nat → Int64)) (x5_ : Int32), k12 (words_, x5_) = some res → ∀ {H : Heap} {locs : List Loc} {ls : Array Slot}, va_P G vwCl [(a_this, .inr (4, [.ref a_words, .int base_])), (a_words, .inl (cJ, 160, .inr (.inl words_))), (a_p1, .inr (5, [.ref a_p1_cells, .int p1_clauses_, u_p1_count_, .int p1_lettersOfA_, .int p1_lettersOfB_])), (a_p1_cells, .inl (cI, 320, .inl p1_cells_))] H → va_D A [(a_this, .inr (4, [.ref a_words, .int base_])), (a_words, .inl (cJ, 160, .inr (.inl words_))), (a_p1, .inr (5, [.ref a_p1_cells, .int p1_clauses_, u_p1_count_, .int p1_lettersOfA_, .int p1_lettersOfB_])), (a_p1_cells, .inl (cI, 320, .inl p1_cells_))] → va_S A s.heap H locs → lv_has ls 6 [(0, .ref a_this), (1, .ref a_p1), (2, .int x2_), (3, .int x3_), (4, .int x4_), (5, .int x5_)] → W p l e ({ frames := 3, cells := 0, slots := 0, locals := 73 } : Room) s m args below meth c H locs 0 0 Q (F0 m 12 ls [])) (words_ : (Nat → Int64)) (x5_ : Int32) (hf : b_X4_read_12 p1_clauses_ p1_lettersOfA_ p1_lettersOfB_ p1_cells_ x2_ x4_ k3 k12 words_ x5_ = some res) {H : Heap} {locs : List Loc} {ls : Array Slot} (hP : va_P G vwCl [(a_this, .inr (4, [.ref a_words, .int base_])), (a_words, .inl (cJ, 160, .inr (.inl words_))), (a_p1, .inr (5, [.ref a_p1_cells, .int p1_clauses_, u_p1_count_, .int p1_lettersOfA_, .int p1_lettersOfB_])), (a_p1_cells, .inl (cI, 320, .inl p1_cells_))] H) (hD : va_D A [(a_this, .inr (4, [.ref a_words, .int base_])), (a_words, .inl (cJ, 160, .inr (.inl words_))), (a_p1, .inr (5, [.ref a_p1_cells, .int p1_clauses_, u_p1_count_, .int p1_lettersOfA_, .int p1_lettersOfB_])), (a_p1_cells, .inl (cI, 320, .inl p1_cells_))]) (hS : va_S A s.heap H locs) (hl : lv_has ls 6 [(0, .ref a_this), (1, .ref a_p1), (2, .int x2_), (3, .int x3_), (4, .int x4_), (5, .int x5_)]) : W p l e ({ frames := 3, cells := 0, slots := 0, locals := 73 } : Room) s m args below meth c H locs 0 0 Q (F0 m 12 ls []) := by
  obtain ⟨hx, hb, hml, hown, hts⟩ := id M
  unfold b_X4_read_12 at hf
  refine lv_iload hx hb dX4_read_12 (lv_at hl 5 rfl) ?_
  refine lv_iconst (v := (4 : Int32)) hx hb dX4_read_14 (by decide) ?_
  refine lv_icmp_ge (tgt := 67) hx hb dX4_read_15 (by decide) (fun hc1 => ?_) (fun hc1 => ?_)
  · have hf := oI_t hc1 hf
    obtain ⟨x4_2, ex4_2, hf⟩ := oL_e hf
    refine lv_iinc (v := x4_2) (lv' := [(4, .int x4_2), (0, .ref a_this), (1, .ref a_p1), (2, .int x2_), (3, .int x3_), (5, .int x5_)]) hx hb dX4_read_67 hl (k := 4) rfl (by rw [← ex4_2]; rfl) (by decide) rfl (fun ls hl => ?_)
    refine lv_goto (tgt := 3) hx hb dX4_read_70 (by decide) ?_
    exact hk3 _ _ hf hP hD hS (lv_sub hl [1, 2, 3, 4, 0] rfl)
  · have hf := oI_f hc1 hf
    refine lv_aload_n hx hb dX4_read_18 rfl (lv_at hl 0 rfl) ?_
    refine xget M (C := RX4) (T := TX4) (N := 2) (ci := 4) (v := .ref a_words) uw_X4_read_X4 hK hP 0 rfl rfl 0 (by decide) fl_X4_read_11 rfl rfl dX4_read_19 ?_
    refine lv_iload hx hb dX4_read_22 (lv_at hl 4 rfl) ?_
    refine lv_iconst (v := (4 : Int32)) hx hb dX4_read_24 (by decide) ?_
    refine lv_imul hx hb dX4_read_25 ?_
    refine lv_iload hx hb dX4_read_26 (lv_at hl 5 rfl) ?_
    refine lv_iadd hx hb dX4_read_28 ?_
    refine lv_iload hx hb dX4_read_29 (lv_at hl 4 rfl) ?_
    refine lv_aload_n hx hb dX4_read_31 rfl (lv_at hl 1 rfl) ?_
    refine xget M (C := RX5) (T := TX5) (N := 5) (ci := 5) (v := .int p1_clauses_) uw_X4_read_X5 hK hP 2 rfl rfl 1 (by decide) fl_X4_read_17 rfl rfl dX4_read_32 ?_
    refine lv_icmp_ge (tgt := 50) hx hb dX4_read_35 (by decide) (fun hc3 => ?_) (fun hc3 => ?_)
    · have hf := oI_t hc3 hf
      refine lv_aload_n hx hb dX4_read_50 rfl (lv_at hl 0 rfl) ?_
      refine lv_aload_n hx hb dX4_read_51 rfl (lv_at hl 1 rfl) ?_
      refine lv_iload_n hx hb dX4_read_52 rfl (lv_at hl 2 rfl) ?_
      refine lv_iload hx hb dX4_read_53 (lv_at hl 4 rfl) ?_
      refine lv_iload hx hb dX4_read_55 (lv_at hl 5 rfl) ?_
      obtain ⟨r4, hq5, hf⟩ := oB1_e hf
      refine xcl (wr := []) (ws' := fun _ => [(a_this, .inr (4, [.ref a_words, .int base_])), (a_words, .inl (cJ, 160, .inr (.inl words_))), (a_p1, .inr (5, [.ref a_p1_cells, .int p1_clauses_, u_p1_count_, .int p1_lettersOfA_, .int p1_lettersOfB_])), (a_p1_cells, .inl (cI, 320, .inl p1_cells_))]) hA hP hD hS (xrV (As := [.ref a_p1, .int x2_, .int x4_, .int x5_]) (rest := [.int ((x4_ * (4 : Int32)) + x5_), .ref a_words]) M hA hK hZ hP hD hS (c_X4_ofStep l G cI cJ cZ cO tS H.size a_this a_words a_p1 a_p1_cells (.int base_) (.int p1_clauses_) (u_p1_count_) words_ p1_lettersOfA_ p1_lettersOfB_ p1_cells_ x2_ x4_ x5_ r4 hq5) (cwV 4 hts gX4_read_X4_ofStep rfl rfl rfl hd_X4_ofStep ⟨Nat.le_of_ble_eq_true rfl, Nat.le_of_ble_eq_true rfl⟩) [0, 1, 2, 3] rfl rfl 0 rfl rfl rfl hl.1 rfl (Nat.le_of_ble_eq_true rfl) dX4_read_57 ⟨Nat.le_of_ble_eq_true rfl, Nat.le_of_ble_eq_true rfl⟩) [0, 1, 2, 3] [] [0, 1, 2, 3] rfl rfl rfl rfl (fun _ => rfl) rfl (fun _ H locs hP hD hS => ?_)
      exact w_X4_read_60 a_this a_words a_p1 a_p1_cells u_p1_count_ p1_clauses_ p1_lettersOfA_ p1_lettersOfB_ p1_cells_ hA hK hZ M res hR base_ words_ x2_ x3_ x4_ x5_ ((x4_ * (4 : Int32)) + x5_) r4 k3 hk3 k12 hk12 hf hP hD hS (lv_sub hl [0, 1, 2, 3, 4, 5] rfl)
    · have hf := oI_f hc3 hf
      refine lv_aload_n hx hb dX4_read_38 rfl (lv_at hl 1 rfl) ?_
      refine lv_iload_n hx hb dX4_read_39 rfl (lv_at hl 2 rfl) ?_
      refine lv_iload hx hb dX4_read_40 (lv_at hl 4 rfl) ?_
      refine lv_iload hx hb dX4_read_42 (lv_at hl 5 rfl) ?_
      obtain ⟨r6, hq7, hf⟩ := oB1_e hf
      refine xcl (wr := [(a_this, .inr (4, [.ref a_words, .int base_])), (a_words, .inl (cJ, 160, .inr (.inl words_)))]) (ws' := fun _ => [(a_this, .inr (4, [.ref a_words, .int base_])), (a_words, .inl (cJ, 160, .inr (.inl words_))), (a_p1, .inr (5, [.ref a_p1_cells, .int p1_clauses_, u_p1_count_, .int p1_lettersOfA_, .int p1_lettersOfB_])), (a_p1_cells, .inl (cI, 320, .inl p1_cells_))]) hA hP hD hS (xrS (As := [.ref a_p1, .int x2_, .int x4_, .int x5_]) (rest := [.int ((x4_ * (4 : Int32)) + x5_), .ref a_words]) M hA hK hZ hP hD hS (c_X4_ofClause l G cI cJ cZ cO tS H.size a_p1 a_p1_cells (.int p1_clauses_) (u_p1_count_) p1_lettersOfA_ p1_lettersOfB_ p1_cells_ x2_ x4_ x5_ r6 hq7) (va_cwS 4 hts gX4_read_X4_ofClause rfl rfl rfl hd_X4_ofClause ⟨Nat.le_of_ble_eq_true rfl, Nat.le_of_ble_eq_true rfl⟩) [2, 3] rfl rfl rfl hl.1 rfl (Nat.le_of_ble_eq_true rfl) dX4_read_44 ⟨Nat.le_of_ble_eq_true rfl, Nat.le_of_ble_eq_true rfl⟩) [2, 3] [0, 1] [0, 1, 2, 3] rfl rfl rfl rfl (fun _ => rfl) rfl (fun _ H locs hP hD hS => ?_)
      refine lv_goto (tgt := 60) hx hb dX4_read_47 (by decide) ?_
      exact w_X4_read_60 a_this a_words a_p1 a_p1_cells u_p1_count_ p1_clauses_ p1_lettersOfA_ p1_lettersOfB_ p1_cells_ hA hK hZ M res hR base_ words_ x2_ x3_ x4_ x5_ ((x4_ * (4 : Int32)) + x5_) r6 k3 hk3 k12 hk12 hf hP hD hS (lv_sub hl [0, 1, 2, 3, 4, 5] rfl)
set_option maxHeartbeats 4000000 in
set_option maxRecDepth 100000 in
theorem wl_X4_read_12 {p : Program} {l : Launch} {e : Env} {s : State} {m : MethodId} {args : Array Value} {below : List Frame} {meth : Method} {c : Code} {Q : State → Prop} {A : Nat → Prop} {G : va_G} {cI cJ cZ cO : ClassId} {tS : Nat} (a_this : Nat) (a_words : Nat) (a_p1 : Nat) (a_p1_cells : Nat) (u_p1_count_ : Value) (p1_clauses_ : Int32) (p1_lettersOfA_ : Int32) (p1_lettersOfB_ : Int32) (p1_cells_ : (Nat → Int32)) (hA : ∀ q : Nat, s.heap.size ≤ q → A q) (hK : va_K G vwCl (xTY cI cJ cZ cO) s) (hZ : xST tS A s) (M : CallFix p m c cX4_read 6 s args wsX4_read RX4) (res : (Nat → Int64) × Int32) (hR : RT_X4_read p l e s m args below meth c Q A G cI cJ cZ cO a_this a_words a_p1 a_p1_cells u_p1_count_ p1_clauses_ p1_lettersOfA_ p1_lettersOfB_ p1_cells_ res) (base_ : Int32) (x2_ : Int32) (x3_ : Int32) (x4_ : Int32) (k3 : ((Nat → Int64) × Int32) → Option ((Nat → Int64) × Int32)) (hk3 : ∀ (words_ : (Nat → Int64)) (x4_ : Int32), k3 (words_, x4_) = some res → ∀ {H : Heap} {locs : List Loc} {ls : Array Slot}, va_P G vwCl [(a_this, .inr (4, [.ref a_words, .int base_])), (a_words, .inl (cJ, 160, .inr (.inl words_))), (a_p1, .inr (5, [.ref a_p1_cells, .int p1_clauses_, u_p1_count_, .int p1_lettersOfA_, .int p1_lettersOfB_])), (a_p1_cells, .inl (cI, 320, .inl p1_cells_))] H → va_D A [(a_this, .inr (4, [.ref a_words, .int base_])), (a_words, .inl (cJ, 160, .inr (.inl words_))), (a_p1, .inr (5, [.ref a_p1_cells, .int p1_clauses_, u_p1_count_, .int p1_lettersOfA_, .int p1_lettersOfB_])), (a_p1_cells, .inl (cI, 320, .inl p1_cells_))] → va_S A s.heap H locs → lv_has ls 6 [(0, .ref a_this), (1, .ref a_p1), (2, .int x2_), (3, .int x3_), (4, .int x4_)] → W p l e ({ frames := 3, cells := 0, slots := 0, locals := 73 } : Room) s m args below meth c H locs 0 0 Q (F0 m 3 ls [])) (n : Nat) : ∀ (words_ : (Nat → Int64)) (x5_ : Int32), oF (fun k z => b_X4_read_12 p1_clauses_ p1_lettersOfA_ p1_lettersOfB_ p1_cells_ x2_ x4_ k3 k z.1 z.2) n (words_, x5_) = some res → ∀ {H : Heap} {locs : List Loc} {ls : Array Slot}, va_P G vwCl [(a_this, .inr (4, [.ref a_words, .int base_])), (a_words, .inl (cJ, 160, .inr (.inl words_))), (a_p1, .inr (5, [.ref a_p1_cells, .int p1_clauses_, u_p1_count_, .int p1_lettersOfA_, .int p1_lettersOfB_])), (a_p1_cells, .inl (cI, 320, .inl p1_cells_))] H → va_D A [(a_this, .inr (4, [.ref a_words, .int base_])), (a_words, .inl (cJ, 160, .inr (.inl words_))), (a_p1, .inr (5, [.ref a_p1_cells, .int p1_clauses_, u_p1_count_, .int p1_lettersOfA_, .int p1_lettersOfB_])), (a_p1_cells, .inl (cI, 320, .inl p1_cells_))] → va_S A s.heap H locs → lv_has ls 6 [(0, .ref a_this), (1, .ref a_p1), (2, .int x2_), (3, .int x3_), (4, .int x4_), (5, .int x5_)] → W p l e ({ frames := 3, cells := 0, slots := 0, locals := 73 } : Room) s m args below meth c H locs 0 0 Q (F0 m 12 ls []) := by
  induction n with
  | zero => intro words_ x5_ hf; cases hf
  | succ n ih =>
    intro words_ x5_ hf H locs ls hP hD hS hl
    exact wb_X4_read_12 a_this a_words a_p1 a_p1_cells u_p1_count_ p1_clauses_ p1_lettersOfA_ p1_lettersOfB_ p1_cells_ hA hK hZ M res hR base_ x2_ x3_ x4_ k3 hk3 _ ih words_ x5_ hf hP hD hS hl
set_option maxHeartbeats 4000000 in
set_option maxRecDepth 100000 in
theorem wb_X4_read_3 {p : Program} {l : Launch} {e : Env} {s : State} {m : MethodId} {args : Array Value} {below : List Frame} {meth : Method} {c : Code} {Q : State → Prop} {A : Nat → Prop} {G : va_G} {cI cJ cZ cO : ClassId} {tS : Nat} (a_this : Nat) (a_words : Nat) (a_p1 : Nat) (a_p1_cells : Nat) (u_p1_count_ : Value) (p1_clauses_ : Int32) (p1_lettersOfA_ : Int32) (p1_lettersOfB_ : Int32) (p1_cells_ : (Nat → Int32)) (hA : ∀ q : Nat, s.heap.size ≤ q → A q) (hK : va_K G vwCl (xTY cI cJ cZ cO) s) (hZ : xST tS A s) (M : CallFix p m c cX4_read 6 s args wsX4_read RX4) (res : (Nat → Int64) × Int32) (hR : RT_X4_read p l e s m args below meth c Q A G cI cJ cZ cO a_this a_words a_p1 a_p1_cells u_p1_count_ p1_clauses_ p1_lettersOfA_ p1_lettersOfB_ p1_cells_ res) (base_ : Int32) (x2_ : Int32) (x3_ : Int32)  (k3 : ((Nat → Int64) × Int32) → Option ((Nat → Int64) × Int32)) (hk3 : ∀ (words_ : (Nat → Int64)) (x4_ : Int32), k3 (words_, x4_) = some res → ∀ {H : Heap} {locs : List Loc} {ls : Array Slot}, va_P G vwCl [(a_this, .inr (4, [.ref a_words, .int base_])), (a_words, .inl (cJ, 160, .inr (.inl words_))), (a_p1, .inr (5, [.ref a_p1_cells, .int p1_clauses_, u_p1_count_, .int p1_lettersOfA_, .int p1_lettersOfB_])), (a_p1_cells, .inl (cI, 320, .inl p1_cells_))] H → va_D A [(a_this, .inr (4, [.ref a_words, .int base_])), (a_words, .inl (cJ, 160, .inr (.inl words_))), (a_p1, .inr (5, [.ref a_p1_cells, .int p1_clauses_, u_p1_count_, .int p1_lettersOfA_, .int p1_lettersOfB_])), (a_p1_cells, .inl (cI, 320, .inl p1_cells_))] → va_S A s.heap H locs → lv_has ls 6 [(0, .ref a_this), (1, .ref a_p1), (2, .int x2_), (3, .int x3_), (4, .int x4_)] → W p l e ({ frames := 3, cells := 0, slots := 0, locals := 73 } : Room) s m args below meth c H locs 0 0 Q (F0 m 3 ls [])) (words_ : (Nat → Int64)) (x4_ : Int32) (hf : b_X4_read_3 p1_clauses_ p1_lettersOfA_ p1_lettersOfB_ p1_cells_ x2_ x3_ k3 words_ x4_ = some res) {H : Heap} {locs : List Loc} {ls : Array Slot} (hP : va_P G vwCl [(a_this, .inr (4, [.ref a_words, .int base_])), (a_words, .inl (cJ, 160, .inr (.inl words_))), (a_p1, .inr (5, [.ref a_p1_cells, .int p1_clauses_, u_p1_count_, .int p1_lettersOfA_, .int p1_lettersOfB_])), (a_p1_cells, .inl (cI, 320, .inl p1_cells_))] H) (hD : va_D A [(a_this, .inr (4, [.ref a_words, .int base_])), (a_words, .inl (cJ, 160, .inr (.inl words_))), (a_p1, .inr (5, [.ref a_p1_cells, .int p1_clauses_, u_p1_count_, .int p1_lettersOfA_, .int p1_lettersOfB_])), (a_p1_cells, .inl (cI, 320, .inl p1_cells_))]) (hS : va_S A s.heap H locs) (hl : lv_has ls 6 [(0, .ref a_this), (1, .ref a_p1), (2, .int x2_), (3, .int x3_), (4, .int x4_)]) : W p l e ({ frames := 3, cells := 0, slots := 0, locals := 73 } : Room) s m args below meth c H locs 0 0 Q (F0 m 3 ls []) := by
  obtain ⟨hx, hb, hml, hown, hts⟩ := id M
  unfold b_X4_read_3 at hf
  refine lv_iload hx hb dX4_read_3 (lv_at hl 4 rfl) ?_
  refine lv_iload_n hx hb dX4_read_5 rfl (lv_at hl 3 rfl) ?_
  refine lv_icmp_gt (tgt := 73) hx hb dX4_read_6 (by decide) (fun hc1 => ?_) (fun hc1 => ?_)
  · have hf := oI_t hc1 hf
    refine lv_aload_n hx hb dX4_read_73 rfl (lv_at hl 0 rfl) ?_
    refine lv_iload_n hx hb dX4_read_74 rfl (lv_at hl 3 rfl) ?_
    refine lv_iconst (v := (4 : Int32)) hx hb dX4_read_75 (by decide) ?_
    refine lv_imul hx hb dX4_read_76 ?_
    obtain ⟨base_2, ebase_2, hf⟩ := oL_e hf
    refine xtopi ebase_2 ?_
    refine xput M (C := RX4) (T := TX4) (N := 2) (ci := 4) (v := .int base_2) uw_X4_read_X4 tyX4 tyX4_ok nmX4 hK hP hD hS 0 rfl rfl 1 (by decide) fl_X4_read_30 rfl rfl rfl rfl (Nat.le_of_ble_eq_true rfl) [(a_this, .inr (4, [.ref a_words, .int base_2])), (a_words, .inl (cJ, 160, .inr (.inl words_))), (a_p1, .inr (5, [.ref a_p1_cells, .int p1_clauses_, u_p1_count_, .int p1_lettersOfA_, .int p1_lettersOfB_])), (a_p1_cells, .inl (cI, 320, .inl p1_cells_))] rfl dX4_read_77 (fun H locs hP hD hS => ?_)
    exact hR _ _ hf _ _ _ _ dX4_read_80 hP hD hS
  · have hf := oI_f hc1 hf
    refine lv_iconst (v := (0 : Int32)) hx hb dX4_read_9 (by decide) ?_
    refine lv_istore (lv' := [(5, .int (0 : Int32)), (0, .ref a_this), (1, .ref a_p1), (2, .int x2_), (3, .int x3_), (4, .int x4_)]) hx hb dX4_read_10 hl (by decide) rfl (fun ls hl => ?_)
    exact wl_X4_read_12 a_this a_words a_p1 a_p1_cells u_p1_count_ p1_clauses_ p1_lettersOfA_ p1_lettersOfB_ p1_cells_ hA hK hZ M res hR base_ x2_ x3_ x4_ k3 hk3 xN words_ (0 : Int32) hf hP hD hS (lv_sub hl [1, 2, 3, 4, 5, 0] rfl)
set_option maxHeartbeats 4000000 in
set_option maxRecDepth 100000 in
theorem wl_X4_read_3 {p : Program} {l : Launch} {e : Env} {s : State} {m : MethodId} {args : Array Value} {below : List Frame} {meth : Method} {c : Code} {Q : State → Prop} {A : Nat → Prop} {G : va_G} {cI cJ cZ cO : ClassId} {tS : Nat} (a_this : Nat) (a_words : Nat) (a_p1 : Nat) (a_p1_cells : Nat) (u_p1_count_ : Value) (p1_clauses_ : Int32) (p1_lettersOfA_ : Int32) (p1_lettersOfB_ : Int32) (p1_cells_ : (Nat → Int32)) (hA : ∀ q : Nat, s.heap.size ≤ q → A q) (hK : va_K G vwCl (xTY cI cJ cZ cO) s) (hZ : xST tS A s) (M : CallFix p m c cX4_read 6 s args wsX4_read RX4) (res : (Nat → Int64) × Int32) (hR : RT_X4_read p l e s m args below meth c Q A G cI cJ cZ cO a_this a_words a_p1 a_p1_cells u_p1_count_ p1_clauses_ p1_lettersOfA_ p1_lettersOfB_ p1_cells_ res) (base_ : Int32) (x2_ : Int32) (x3_ : Int32)  (n : Nat) : ∀ (words_ : (Nat → Int64)) (x4_ : Int32), oF (fun k z => b_X4_read_3 p1_clauses_ p1_lettersOfA_ p1_lettersOfB_ p1_cells_ x2_ x3_ k z.1 z.2) n (words_, x4_) = some res → ∀ {H : Heap} {locs : List Loc} {ls : Array Slot}, va_P G vwCl [(a_this, .inr (4, [.ref a_words, .int base_])), (a_words, .inl (cJ, 160, .inr (.inl words_))), (a_p1, .inr (5, [.ref a_p1_cells, .int p1_clauses_, u_p1_count_, .int p1_lettersOfA_, .int p1_lettersOfB_])), (a_p1_cells, .inl (cI, 320, .inl p1_cells_))] H → va_D A [(a_this, .inr (4, [.ref a_words, .int base_])), (a_words, .inl (cJ, 160, .inr (.inl words_))), (a_p1, .inr (5, [.ref a_p1_cells, .int p1_clauses_, u_p1_count_, .int p1_lettersOfA_, .int p1_lettersOfB_])), (a_p1_cells, .inl (cI, 320, .inl p1_cells_))] → va_S A s.heap H locs → lv_has ls 6 [(0, .ref a_this), (1, .ref a_p1), (2, .int x2_), (3, .int x3_), (4, .int x4_)] → W p l e ({ frames := 3, cells := 0, slots := 0, locals := 73 } : Room) s m args below meth c H locs 0 0 Q (F0 m 3 ls []) := by
  induction n with
  | zero => intro words_ x4_ hf; cases hf
  | succ n ih =>
    intro words_ x4_ hf H locs ls hP hD hS hl
    exact wb_X4_read_3 a_this a_words a_p1 a_p1_cells u_p1_count_ p1_clauses_ p1_lettersOfA_ p1_lettersOfB_ p1_cells_ hA hK hZ M res hR base_ x2_ x3_  _ ih words_ x4_ hf hP hD hS hl
set_option maxHeartbeats 4000000 in
set_option maxRecDepth 100000 in
theorem w_X4_read_0 {p : Program} {l : Launch} {e : Env} {s : State} {m : MethodId} {args : Array Value} {below : List Frame} {meth : Method} {c : Code} {Q : State → Prop} {A : Nat → Prop} {G : va_G} {cI cJ cZ cO : ClassId} {tS : Nat} (a_this : Nat) (a_words : Nat) (a_p1 : Nat) (a_p1_cells : Nat) (u_p1_count_ : Value) (p1_clauses_ : Int32) (p1_lettersOfA_ : Int32) (p1_lettersOfB_ : Int32) (p1_cells_ : (Nat → Int32)) (hA : ∀ q : Nat, s.heap.size ≤ q → A q) (hK : va_K G vwCl (xTY cI cJ cZ cO) s) (hZ : xST tS A s) (M : CallFix p m c cX4_read 6 s args wsX4_read RX4) (res : (Nat → Int64) × Int32) (hR : RT_X4_read p l e s m args below meth c Q A G cI cJ cZ cO a_this a_words a_p1 a_p1_cells u_p1_count_ p1_clauses_ p1_lettersOfA_ p1_lettersOfB_ p1_cells_ res) (base_ : Int32) (words_ : (Nat → Int64)) (x2_ : Int32) (x3_ : Int32) (hf : f_X4_read words_ p1_clauses_ p1_lettersOfA_ p1_lettersOfB_ p1_cells_ x2_ x3_ = some res) {H : Heap} {locs : List Loc} {ls : Array Slot} (hP : va_P G vwCl [(a_this, .inr (4, [.ref a_words, .int base_])), (a_words, .inl (cJ, 160, .inr (.inl words_))), (a_p1, .inr (5, [.ref a_p1_cells, .int p1_clauses_, u_p1_count_, .int p1_lettersOfA_, .int p1_lettersOfB_])), (a_p1_cells, .inl (cI, 320, .inl p1_cells_))] H) (hD : va_D A [(a_this, .inr (4, [.ref a_words, .int base_])), (a_words, .inl (cJ, 160, .inr (.inl words_))), (a_p1, .inr (5, [.ref a_p1_cells, .int p1_clauses_, u_p1_count_, .int p1_lettersOfA_, .int p1_lettersOfB_])), (a_p1_cells, .inl (cI, 320, .inl p1_cells_))]) (hS : va_S A s.heap H locs) (hl : lv_has ls 6 [(0, .ref a_this), (1, .ref a_p1), (2, .int x2_), (3, .int x3_)]) : W p l e ({ frames := 3, cells := 0, slots := 0, locals := 73 } : Room) s m args below meth c H locs 0 0 Q (F0 m 0 ls []) := by
  obtain ⟨hx, hb, hml, hown, hts⟩ := id M
  unfold f_X4_read at hf
  refine lv_iconst (v := (0 : Int32)) hx hb dX4_read_0 (by decide) ?_
  refine lv_istore (lv' := [(4, .int (0 : Int32)), (0, .ref a_this), (1, .ref a_p1), (2, .int x2_), (3, .int x3_)]) hx hb dX4_read_1 hl (by decide) rfl (fun ls hl => ?_)
  exact wl_X4_read_3 a_this a_words a_p1 a_p1_cells u_p1_count_ p1_clauses_ p1_lettersOfA_ p1_lettersOfB_ p1_cells_ hA hK hZ M res hR base_ x2_ x3_  xN words_ (0 : Int32) hf hP hD hS (lv_sub hl [1, 2, 3, 4, 0] rfl)
set_option maxHeartbeats 4000000 in
set_option maxRecDepth 100000 in
theorem c_X4_read (l : Launch) (G : va_G) (cI cJ cZ cO : ClassId) (tS sz : Nat) (a_this : Nat) (a_words : Nat) (a_p1 : Nat) (a_p1_cells : Nat) (u_p1_count_ : Value) (p1_clauses_ : Int32) (p1_lettersOfA_ : Int32) (p1_lettersOfB_ : Int32) (p1_cells_ : (Nat → Int32)) (base_ : Int32) (words_ : (Nat → Int64)) (x2_ : Int32) (x3_ : Int32) (o_words_ : (Nat → Int64)) (o_base_ : Int32) (hf : f_X4_read words_ p1_clauses_ p1_lettersOfA_ p1_lettersOfB_ p1_cells_ x2_ x3_ = some (o_words_, o_base_)) : Met l yX4_read wsX4_read ({ frames := 3, cells := 0, slots := 0, locals := 73 } : Room) (xPre G (xTY cI cJ cZ cO) tS [(a_this, .inr (4, [.ref a_words, .int base_])), (a_words, .inl (cJ, 160, .inr (.inl words_))), (a_p1, .inr (5, [.ref a_p1_cells, .int p1_clauses_, u_p1_count_, .int p1_lettersOfA_, .int p1_lettersOfB_])), (a_p1_cells, .inl (cI, 320, .inl p1_cells_))] sz [.ref a_this, .ref a_p1, .int x2_, .int x3_]) (xQv G [(a_this, .inr (4, [.ref a_words, .int base_])), (a_words, .inl (cJ, 160, .inr (.inl words_))), (a_p1, .inr (5, [.ref a_p1_cells, .int p1_clauses_, u_p1_count_, .int p1_lettersOfA_, .int p1_lettersOfB_])), (a_p1_cells, .inl (cI, 320, .inl p1_cells_))] sz (fun _ : Unit => [(a_this, .inr (4, [.ref a_words, .int o_base_])), (a_words, .inl (cJ, 160, .inr (.inl o_words_))), (a_p1, .inr (5, [.ref a_p1_cells, .int p1_clauses_, u_p1_count_, .int p1_lettersOfA_, .int p1_lettersOfB_])), (a_p1_cells, .inl (cI, 320, .inl p1_cells_))])) 0 0 (va_A [(a_this, .inr (4, [.ref a_words, .int base_])), (a_words, .inl (cJ, 160, .inr (.inl words_))), (a_p1, .inr (5, [.ref a_p1_cells, .int p1_clauses_, u_p1_count_, .int p1_lettersOfA_, .int p1_lettersOfB_])), (a_p1_cells, .inl (cI, 320, .inl p1_cells_))] sz) := by
  refine xMet (cc := cX4_read) (maxL := 6) (ret := none) (own := RX4) (by decide +kernel) rfl rfl (Nat.le_of_ble_eq_true rfl) rfl ?_
  intro p e s m below meth c ls M hr hlk hin hsz hA hK hZ hP hD hl
  refine w_X4_read_0 a_this a_words a_p1 a_p1_cells u_p1_count_ p1_clauses_ p1_lettersOfA_ p1_lettersOfB_ p1_cells_ hA hK hZ M (o_words_, o_base_) (fun o_words_' o_base_' hres H locs ls pc hd hP hD hS => ?_) base_ words_ x2_ x3_ hf hP hD va_S.rf hl
  cases hres
  exact xretv (W1 := fun _ : Unit => [(a_this, .inr (4, [.ref a_words, .int o_base_])), (a_words, .inl (cJ, 160, .inr (.inl o_words_))), (a_p1, .inr (5, [.ref a_p1_cells, .int p1_clauses_, u_p1_count_, .int p1_lettersOfA_, .int p1_lettersOfB_])), (a_p1_cells, .inl (cI, 320, .inl p1_cells_))]) M hr hlk () hP hD hS hd
/-! BetweenBoth$Sentence.worldsSo()I -/
theorem hd_X4_worldsSo : yX4_worldsSo.cls = RX4 ∧ yX4_worldsSo.cls ≠ "java/lang/invoke/MethodHandle" ∧ yX4_worldsSo.cls ≠ "java/lang/invoke/VarHandle" ∧ (parseMethodDescriptor yX4_worldsSo.desc).map (fun d => d.parameters.length) = some 0 := by decide +kernel
def RT_X4_worldsSo (p : Program) (l : Launch) (e : Env) (s : State) (m : MethodId) (args : Array Value) (below : List Frame) (meth : Method) (c : Code) (Q : State → Prop) (A : Nat → Prop) (G : va_G) (cI cJ cZ cO : ClassId) (a_this : Nat) (a_words : Nat) (base_ : Int32) (words_ : (Nat → Int64)) (res : Int32) : Prop := ∀ (v_ : Int32), some v_ = some res → ∀ (H : Heap) (locs : List Loc) (ls : Array Slot) (pc : Nat), decode cX4_worldsSo pc = .ok (.ireturn, 1) → va_P G vwCl [(a_this, .inr (4, [.ref a_words, .int base_])), (a_words, .inl (cJ, 160, .inr (.inl words_)))] H → va_D A [(a_this, .inr (4, [.ref a_words, .int base_])), (a_words, .inl (cJ, 160, .inr (.inl words_)))] → va_S A s.heap H locs → W p l e ({ frames := 1, cells := 0, slots := 0, locals := 21 } : Room) s m args below meth c H locs 0 0 Q (F0 m pc ls [.int v_])
set_option maxHeartbeats 4000000 in
set_option maxRecDepth 100000 in
theorem wb_X4_worldsSo_4 {p : Program} {l : Launch} {e : Env} {s : State} {m : MethodId} {args : Array Value} {below : List Frame} {meth : Method} {c : Code} {Q : State → Prop} {A : Nat → Prop} {G : va_G} {cI cJ cZ cO : ClassId} {tS : Nat} (a_this : Nat) (a_words : Nat) (base_ : Int32) (words_ : (Nat → Int64)) (hA : ∀ q : Nat, s.heap.size ≤ q → A q) (hK : va_K G vwCl (xTY cI cJ cZ cO) s) (hZ : xST tS A s) (M : CallFix p m c cX4_worldsSo 3 s args wsX4_worldsSo RX4) (res : Int32) (hR : RT_X4_worldsSo p l e s m args below meth c Q A G cI cJ cZ cO a_this a_words base_ words_ res)   (k4 : (Int32 × Int32) → Option (Int32)) (hk4 : ∀ (x1_ : Int32) (x2_ : Int32), k4 (x1_, x2_) = some res → ∀ {H : Heap} {locs : List Loc} {ls : Array Slot}, va_P G vwCl [(a_this, .inr (4, [.ref a_words, .int base_])), (a_words, .inl (cJ, 160, .inr (.inl words_)))] H → va_D A [(a_this, .inr (4, [.ref a_words, .int base_])), (a_words, .inl (cJ, 160, .inr (.inl words_)))] → va_S A s.heap H locs → lv_has ls 3 [(0, .ref a_this), (1, .int x1_), (2, .int x2_)] → W p l e ({ frames := 1, cells := 0, slots := 0, locals := 21 } : Room) s m args below meth c H locs 0 0 Q (F0 m 4 ls [])) (x1_ : Int32) (x2_ : Int32) (hf : b_X4_worldsSo_4 base_ words_ k4 x1_ x2_ = some res) {H : Heap} {locs : List Loc} {ls : Array Slot} (hP : va_P G vwCl [(a_this, .inr (4, [.ref a_words, .int base_])), (a_words, .inl (cJ, 160, .inr (.inl words_)))] H) (hD : va_D A [(a_this, .inr (4, [.ref a_words, .int base_])), (a_words, .inl (cJ, 160, .inr (.inl words_)))]) (hS : va_S A s.heap H locs) (hl : lv_has ls 3 [(0, .ref a_this), (1, .int x1_), (2, .int x2_)]) : W p l e ({ frames := 1, cells := 0, slots := 0, locals := 21 } : Room) s m args below meth c H locs 0 0 Q (F0 m 4 ls []) := by
  obtain ⟨hx, hb, hml, hown, hts⟩ := id M
  unfold b_X4_worldsSo_4 at hf
  refine lv_iload_n hx hb dX4_worldsSo_4 rfl (lv_at hl 2 rfl) ?_
  refine lv_iconst (v := (4 : Int32)) hx hb dX4_worldsSo_5 (by decide) ?_
  refine lv_icmp_ge (tgt := 26) hx hb dX4_worldsSo_6 (by decide) (fun hc1 => ?_) (fun hc1 => ?_)
  · have hf := oI_t hc1 hf
    refine lv_iload_n hx hb dX4_worldsSo_26 rfl (lv_at hl 1 rfl) ?_
    exact hR _ hf _ _ _ _ dX4_worldsSo_27 hP hD hS
  · have hf := oI_f hc1 hf
    refine lv_iload_n hx hb dX4_worldsSo_9 rfl (lv_at hl 1 rfl) ?_
    refine lv_aload_n hx hb dX4_worldsSo_10 rfl (lv_at hl 0 rfl) ?_
    refine lv_iload_n hx hb dX4_worldsSo_11 rfl (lv_at hl 2 rfl) ?_
    obtain ⟨r2, hq3, hf⟩ := oB1_e hf
    refine xcl (wr := []) (ws' := fun _ => [(a_this, .inr (4, [.ref a_words, .int base_])), (a_words, .inl (cJ, 160, .inr (.inl words_)))]) hA hP hD hS (xrV (As := [.int x2_]) (rest := [.int x1_]) M hA hK hZ hP hD hS (c_X4_word l G cI cJ cZ cO tS H.size a_this a_words base_ words_ x2_ r2 hq3) (cwV 1 hts gX4_worldsSo_X4_word rfl rfl rfl hd_X4_word ⟨Nat.le_of_ble_eq_true rfl, Nat.le_of_ble_eq_true rfl⟩) [0, 1] rfl rfl 0 rfl rfl rfl hl.1 rfl (Nat.le_of_ble_eq_true rfl) dX4_worldsSo_12 ⟨Nat.le_of_ble_eq_true rfl, Nat.le_of_ble_eq_true rfl⟩) [0, 1] [] [0, 1] rfl rfl rfl rfl (fun _ => rfl) rfl (fun _ H locs hP hD hS => ?_)
    obtain ⟨r4, hq5, hf⟩ := oB1_e hf
    refine xci (wr := [(a_this, .inr (4, [.ref a_words, .int base_])), (a_words, .inl (cJ, 160, .inr (.inl words_)))]) (ws' := fun _ => [(a_this, .inr (4, [.ref a_words, .int base_])), (a_words, .inl (cJ, 160, .inr (.inl words_)))]) hA hP hD hS (xrS (As := [.long r2]) (rest := [.int x1_]) M hA hK hZ hP hD hS (c_J13_bitCount_95d88 l G cI cJ cZ cO tS H.size r2 r4 hq5) (va_cwS 1 hts gX4_worldsSo_J13_bitCount_95d88 rfl rfl rfl hd_J13_bitCount_95d88 ⟨Nat.le_of_ble_eq_true rfl, Nat.le_of_ble_eq_true rfl⟩) [] rfl rfl rfl hl.1 rfl (Nat.le_of_ble_eq_true rfl) dX4_worldsSo_15 ⟨Nat.le_of_ble_eq_true rfl, Nat.le_of_ble_eq_true rfl⟩) [] [0, 1] [0, 1] rfl rfl rfl rfl (fun _ => rfl) rfl (fun _ H locs hP hD hS => ?_)
    refine lv_iadd hx hb dX4_worldsSo_18 ?_
    obtain ⟨x1_6, ex1_6, hf⟩ := oL_e hf
    refine xtopi ex1_6 ?_
    refine lv_istore_n (lv' := [(1, .int x1_6), (0, .ref a_this), (2, .int x2_)]) hx hb dX4_worldsSo_19 rfl hl (by decide) rfl (fun ls hl => ?_)
    obtain ⟨x2_7, ex2_7, hf⟩ := oL_e hf
    refine lv_iinc (v := x2_7) (lv' := [(2, .int x2_7), (1, .int x1_6), (0, .ref a_this)]) hx hb dX4_worldsSo_20 hl (k := 2) rfl (by rw [← ex2_7]; rfl) (by decide) rfl (fun ls hl => ?_)
    refine lv_goto (tgt := 4) hx hb dX4_worldsSo_23 (by decide) ?_
    exact hk4 _ _ hf hP hD hS (lv_sub hl [2, 1, 0] rfl)
set_option maxHeartbeats 4000000 in
set_option maxRecDepth 100000 in
theorem wl_X4_worldsSo_4 {p : Program} {l : Launch} {e : Env} {s : State} {m : MethodId} {args : Array Value} {below : List Frame} {meth : Method} {c : Code} {Q : State → Prop} {A : Nat → Prop} {G : va_G} {cI cJ cZ cO : ClassId} {tS : Nat} (a_this : Nat) (a_words : Nat) (base_ : Int32) (words_ : (Nat → Int64)) (hA : ∀ q : Nat, s.heap.size ≤ q → A q) (hK : va_K G vwCl (xTY cI cJ cZ cO) s) (hZ : xST tS A s) (M : CallFix p m c cX4_worldsSo 3 s args wsX4_worldsSo RX4) (res : Int32) (hR : RT_X4_worldsSo p l e s m args below meth c Q A G cI cJ cZ cO a_this a_words base_ words_ res)   (n : Nat) : ∀ (x1_ : Int32) (x2_ : Int32), oF (fun k z => b_X4_worldsSo_4 base_ words_ k z.1 z.2) n (x1_, x2_) = some res → ∀ {H : Heap} {locs : List Loc} {ls : Array Slot}, va_P G vwCl [(a_this, .inr (4, [.ref a_words, .int base_])), (a_words, .inl (cJ, 160, .inr (.inl words_)))] H → va_D A [(a_this, .inr (4, [.ref a_words, .int base_])), (a_words, .inl (cJ, 160, .inr (.inl words_)))] → va_S A s.heap H locs → lv_has ls 3 [(0, .ref a_this), (1, .int x1_), (2, .int x2_)] → W p l e ({ frames := 1, cells := 0, slots := 0, locals := 21 } : Room) s m args below meth c H locs 0 0 Q (F0 m 4 ls []) := by
  induction n with
  | zero => intro x1_ x2_ hf; cases hf
  | succ n ih =>
    intro x1_ x2_ hf H locs ls hP hD hS hl
    exact wb_X4_worldsSo_4 a_this a_words base_ words_ hA hK hZ M res hR   _ ih x1_ x2_ hf hP hD hS hl
set_option maxHeartbeats 4000000 in
set_option maxRecDepth 100000 in
theorem w_X4_worldsSo_0 {p : Program} {l : Launch} {e : Env} {s : State} {m : MethodId} {args : Array Value} {below : List Frame} {meth : Method} {c : Code} {Q : State → Prop} {A : Nat → Prop} {G : va_G} {cI cJ cZ cO : ClassId} {tS : Nat} (a_this : Nat) (a_words : Nat) (base_ : Int32) (words_ : (Nat → Int64)) (hA : ∀ q : Nat, s.heap.size ≤ q → A q) (hK : va_K G vwCl (xTY cI cJ cZ cO) s) (hZ : xST tS A s) (M : CallFix p m c cX4_worldsSo 3 s args wsX4_worldsSo RX4) (res : Int32) (hR : RT_X4_worldsSo p l e s m args below meth c Q A G cI cJ cZ cO a_this a_words base_ words_ res)   (hf : f_X4_worldsSo base_ words_ = some res) {H : Heap} {locs : List Loc} {ls : Array Slot} (hP : va_P G vwCl [(a_this, .inr (4, [.ref a_words, .int base_])), (a_words, .inl (cJ, 160, .inr (.inl words_)))] H) (hD : va_D A [(a_this, .inr (4, [.ref a_words, .int base_])), (a_words, .inl (cJ, 160, .inr (.inl words_)))]) (hS : va_S A s.heap H locs) (hl : lv_has ls 3 [(0, .ref a_this)]) : W p l e ({ frames := 1, cells := 0, slots := 0, locals := 21 } : Room) s m args below meth c H locs 0 0 Q (F0 m 0 ls []) := by
  obtain ⟨hx, hb, hml, hown, hts⟩ := id M
  unfold f_X4_worldsSo at hf
  refine lv_iconst (v := (0 : Int32)) hx hb dX4_worldsSo_0 (by decide) ?_
  refine lv_istore_n (lv' := [(1, .int (0 : Int32)), (0, .ref a_this)]) hx hb dX4_worldsSo_1 rfl hl (by decide) rfl (fun ls hl => ?_)
  refine lv_iconst (v := (0 : Int32)) hx hb dX4_worldsSo_2 (by decide) ?_
  refine lv_istore_n (lv' := [(2, .int (0 : Int32)), (1, .int (0 : Int32)), (0, .ref a_this)]) hx hb dX4_worldsSo_3 rfl hl (by decide) rfl (fun ls hl => ?_)
  exact wl_X4_worldsSo_4 a_this a_words base_ words_ hA hK hZ M res hR   xN (0 : Int32) (0 : Int32) hf hP hD hS (lv_sub hl [2, 1, 0] rfl)
set_option maxHeartbeats 4000000 in
set_option maxRecDepth 100000 in
theorem c_X4_worldsSo (l : Launch) (G : va_G) (cI cJ cZ cO : ClassId) (tS sz : Nat) (a_this : Nat) (a_words : Nat) (base_ : Int32) (words_ : (Nat → Int64))  (v_ : Int32) (hf : f_X4_worldsSo base_ words_ = some v_) : Met l yX4_worldsSo wsX4_worldsSo ({ frames := 1, cells := 0, slots := 0, locals := 21 } : Room) (xPre G (xTY cI cJ cZ cO) tS [(a_this, .inr (4, [.ref a_words, .int base_])), (a_words, .inl (cJ, 160, .inr (.inl words_)))] sz [.ref a_this]) (xQi G [(a_this, .inr (4, [.ref a_words, .int base_])), (a_words, .inl (cJ, 160, .inr (.inl words_)))] sz (fun _ : Unit => [(a_this, .inr (4, [.ref a_words, .int base_])), (a_words, .inl (cJ, 160, .inr (.inl words_)))]) v_) 0 0 (va_A [(a_this, .inr (4, [.ref a_words, .int base_])), (a_words, .inl (cJ, 160, .inr (.inl words_)))] sz) := by
  refine xMet (cc := cX4_worldsSo) (maxL := 3) (ret := (some .int)) (own := RX4) (by decide +kernel) rfl rfl (Nat.le_of_ble_eq_true rfl) rfl ?_
  intro p e s m below meth c ls M hr hlk hin hsz hA hK hZ hP hD hl
  refine w_X4_worldsSo_0 a_this a_words base_ words_ hA hK hZ M v_ (fun v_' hres H locs ls pc hd hP hD hS => ?_)   hf hP hD va_S.rf hl
  cases hres
  exact xreti (W1 := fun _ : Unit => [(a_this, .inr (4, [.ref a_words, .int base_])), (a_words, .inl (cJ, 160, .inr (.inl words_)))]) M hr hlk () hP hD hS hd
/-! BetweenBoth$Sentence.isSoOnlyWhere(LBetweenBoth$Sentence;)Z -/
theorem kc_X4_isSoOnlyWhere_37 : Cond.constantLong RX4 37 (-1) ∈ wsX4_isSoOnlyWhere := by decide +kernel
theorem hd_X4_isSoOnlyWhere : yX4_isSoOnlyWhere.cls = RX4 ∧ yX4_isSoOnlyWhere.cls ≠ "java/lang/invoke/MethodHandle" ∧ yX4_isSoOnlyWhere.cls ≠ "java/lang/invoke/VarHandle" ∧ (parseMethodDescriptor yX4_isSoOnlyWhere.desc).map (fun d => d.parameters.length) = some 1 := by decide +kernel
def RT_X4_isSoOnlyWhere (p : Program) (l : Launch) (e : Env) (s : State) (m : MethodId) (args : Array Value) (below : List Frame) (meth : Method) (c : Code) (Q : State → Prop) (A : Nat → Prop) (G : va_G) (cI cJ cZ cO : ClassId) (a_this : Nat) (a_words : Nat) (a_p1 : Nat) (a_p1_words : Nat) (base_ : Int32) (words_ : (Nat → Int64)) (p1_base_ : Int32) (p1_words_ : (Nat → Int64)) (res : Int32) : Prop := ∀ (v_ : Int32), some v_ = some res → (v_ = 0 ∨ v_ = 1) → ∀ (H : Heap) (locs : List Loc) (ls : Array Slot) (pc : Nat), decode cX4_isSoOnlyWhere pc = .ok (.ireturn, 1) → va_P G vwCl [(a_this, .inr (4, [.ref a_words, .int base_])), (a_words, .inl (cJ, 160, .inr (.inl words_))), (a_p1, .inr (4, [.ref a_p1_words, .int p1_base_])), (a_p1_words, .inl (cJ, 160, .inr (.inl p1_words_)))] H → va_D A [(a_this, .inr (4, [.ref a_words, .int base_])), (a_words, .inl (cJ, 160, .inr (.inl words_))), (a_p1, .inr (4, [.ref a_p1_words, .int p1_base_])), (a_p1_words, .inl (cJ, 160, .inr (.inl p1_words_)))] → va_S A s.heap H locs → W p l e ({ frames := 1, cells := 0, slots := 0, locals := 21 } : Room) s m args below meth c H locs 0 0 Q (F0 m pc ls [.int v_])
set_option maxHeartbeats 4000000 in
set_option maxRecDepth 100000 in
theorem wb_X4_isSoOnlyWhere_2 {p : Program} {l : Launch} {e : Env} {s : State} {m : MethodId} {args : Array Value} {below : List Frame} {meth : Method} {c : Code} {Q : State → Prop} {A : Nat → Prop} {G : va_G} {cI cJ cZ cO : ClassId} {tS : Nat} (a_this : Nat) (a_words : Nat) (a_p1 : Nat) (a_p1_words : Nat) (base_ : Int32) (words_ : (Nat → Int64)) (p1_base_ : Int32) (p1_words_ : (Nat → Int64)) (hA : ∀ q : Nat, s.heap.size ≤ q → A q) (hK : va_K G vwCl (xTY cI cJ cZ cO) s) (hZ : xST tS A s) (M : CallFix p m c cX4_isSoOnlyWhere 3 s args wsX4_isSoOnlyWhere RX4) (res : Int32) (hR : RT_X4_isSoOnlyWhere p l e s m args below meth c Q A G cI cJ cZ cO a_this a_words a_p1 a_p1_words base_ words_ p1_base_ p1_words_ res)   (k2 : Int32 → Option (Int32)) (hk2 : ∀ (x2_ : Int32), k2 x2_ = some res → ∀ {H : Heap} {locs : List Loc} {ls : Array Slot}, va_P G vwCl [(a_this, .inr (4, [.ref a_words, .int base_])), (a_words, .inl (cJ, 160, .inr (.inl words_))), (a_p1, .inr (4, [.ref a_p1_words, .int p1_base_])), (a_p1_words, .inl (cJ, 160, .inr (.inl p1_words_)))] H → va_D A [(a_this, .inr (4, [.ref a_words, .int base_])), (a_words, .inl (cJ, 160, .inr (.inl words_))), (a_p1, .inr (4, [.ref a_p1_words, .int p1_base_])), (a_p1_words, .inl (cJ, 160, .inr (.inl p1_words_)))] → va_S A s.heap H locs → lv_has ls 3 [(0, .ref a_this), (1, .ref a_p1), (2, .int x2_)] → W p l e ({ frames := 1, cells := 0, slots := 0, locals := 21 } : Room) s m args below meth c H locs 0 0 Q (F0 m 2 ls [])) (x2_ : Int32) (hf : b_X4_isSoOnlyWhere_2 base_ words_ p1_base_ p1_words_ k2 x2_ = some res) {H : Heap} {locs : List Loc} {ls : Array Slot} (hP : va_P G vwCl [(a_this, .inr (4, [.ref a_words, .int base_])), (a_words, .inl (cJ, 160, .inr (.inl words_))), (a_p1, .inr (4, [.ref a_p1_words, .int p1_base_])), (a_p1_words, .inl (cJ, 160, .inr (.inl p1_words_)))] H) (hD : va_D A [(a_this, .inr (4, [.ref a_words, .int base_])), (a_words, .inl (cJ, 160, .inr (.inl words_))), (a_p1, .inr (4, [.ref a_p1_words, .int p1_base_])), (a_p1_words, .inl (cJ, 160, .inr (.inl p1_words_)))]) (hS : va_S A s.heap H locs) (hl : lv_has ls 3 [(0, .ref a_this), (1, .ref a_p1), (2, .int x2_)]) : W p l e ({ frames := 1, cells := 0, slots := 0, locals := 21 } : Room) s m args below meth c H locs 0 0 Q (F0 m 2 ls []) := by
  obtain ⟨hx, hb, hml, hown, hts⟩ := id M
  unfold b_X4_isSoOnlyWhere_2 at hf
  refine lv_iload_n hx hb dX4_isSoOnlyWhere_2 rfl (lv_at hl 2 rfl) ?_
  refine lv_iconst (v := (4 : Int32)) hx hb dX4_isSoOnlyWhere_3 (by decide) ?_
  refine lv_icmp_ge (tgt := 35) hx hb dX4_isSoOnlyWhere_4 (by decide) (fun hc1 => ?_) (fun hc1 => ?_)
  · have hf := oI_t hc1 hf
    refine lv_iconst (v := (1 : Int32)) hx hb dX4_isSoOnlyWhere_35 (by decide) ?_
    exact hR _ hf (by decide) _ _ _ _ dX4_isSoOnlyWhere_36 hP hD hS
  · have hf := oI_f hc1 hf
    refine lv_aload_n hx hb dX4_isSoOnlyWhere_7 rfl (lv_at hl 0 rfl) ?_
    refine lv_iload_n hx hb dX4_isSoOnlyWhere_8 rfl (lv_at hl 2 rfl) ?_
    obtain ⟨r2, hq3, hf⟩ := oB1_e hf
    refine xcl (wr := [(a_p1, .inr (4, [.ref a_p1_words, .int p1_base_])), (a_p1_words, .inl (cJ, 160, .inr (.inl p1_words_)))]) (ws' := fun _ => [(a_this, .inr (4, [.ref a_words, .int base_])), (a_words, .inl (cJ, 160, .inr (.inl words_))), (a_p1, .inr (4, [.ref a_p1_words, .int p1_base_])), (a_p1_words, .inl (cJ, 160, .inr (.inl p1_words_)))]) hA hP hD hS (xrV (As := [.int x2_]) (rest := []) M hA hK hZ hP hD hS (c_X4_word l G cI cJ cZ cO tS H.size a_this a_words base_ words_ x2_ r2 hq3) (cwV 1 hts gX4_isSoOnlyWhere_X4_word rfl rfl rfl hd_X4_word ⟨Nat.le_of_ble_eq_true rfl, Nat.le_of_ble_eq_true rfl⟩) [0, 1] rfl rfl 0 rfl rfl rfl hl.1 rfl (Nat.le_of_ble_eq_true rfl) dX4_isSoOnlyWhere_9 ⟨Nat.le_of_ble_eq_true rfl, Nat.le_of_ble_eq_true rfl⟩) [0, 1] [2, 3] [2, 3, 0, 1] rfl rfl rfl rfl (fun _ => rfl) rfl (fun _ H locs hP hD hS => ?_)
    refine lv_aload_n hx hb dX4_isSoOnlyWhere_12 rfl (lv_at hl 1 rfl) ?_
    refine lv_iload_n hx hb dX4_isSoOnlyWhere_13 rfl (lv_at hl 2 rfl) ?_
    obtain ⟨r4, hq5, hf⟩ := oB1_e hf
    refine xcl (wr := [(a_this, .inr (4, [.ref a_words, .int base_])), (a_words, .inl (cJ, 160, .inr (.inl words_)))]) (ws' := fun _ => [(a_this, .inr (4, [.ref a_words, .int base_])), (a_words, .inl (cJ, 160, .inr (.inl words_))), (a_p1, .inr (4, [.ref a_p1_words, .int p1_base_])), (a_p1_words, .inl (cJ, 160, .inr (.inl p1_words_)))]) hA hP hD hS (xrV (As := [.int x2_]) (rest := [.long r2]) M hA hK hZ hP hD hS (c_X4_word l G cI cJ cZ cO tS H.size a_p1 a_p1_words p1_base_ p1_words_ x2_ r4 hq5) (cwV 1 hts gX4_isSoOnlyWhere_X4_word rfl rfl rfl hd_X4_word ⟨Nat.le_of_ble_eq_true rfl, Nat.le_of_ble_eq_true rfl⟩) [2, 3] rfl rfl 2 rfl rfl rfl hl.1 rfl (Nat.le_of_ble_eq_true rfl) dX4_isSoOnlyWhere_14 ⟨Nat.le_of_ble_eq_true rfl, Nat.le_of_ble_eq_true rfl⟩) [2, 3] [0, 1] [0, 1, 2, 3] rfl rfl rfl rfl (fun _ => rfl) rfl (fun _ H locs hP hD hS => ?_)
    refine lv_ldc2 (v := (-1)) hx hb hown (hts _ kc_X4_isSoOnlyWhere_37) dX4_isSoOnlyWhere_17 ?_
    refine lv_lxor hx hb dX4_isSoOnlyWhere_20 ?_
    refine lv_land hx hb dX4_isSoOnlyWhere_21 ?_
    refine lv_lconst (v := (0 : Int64)) hx hb dX4_isSoOnlyWhere_22 (by decide) ?_
    refine W.lcmp hx hb dX4_isSoOnlyWhere_23 ?_
    refine lv_if_eq (tgt := 29) hx hb dX4_isSoOnlyWhere_24 (by decide) (fun hc6 => ?_) (fun hc6 => ?_)
    · have hf := oI_t hc6 hf
      obtain ⟨x2_7, ex2_7, hf⟩ := oL_e hf
      refine lv_iinc (v := x2_7) (lv' := [(2, .int x2_7), (0, .ref a_this), (1, .ref a_p1)]) hx hb dX4_isSoOnlyWhere_29 hl (k := 2) rfl (by rw [← ex2_7]; rfl) (by decide) rfl (fun ls hl => ?_)
      refine lv_goto (tgt := 2) hx hb dX4_isSoOnlyWhere_32 (by decide) ?_
      exact hk2 _ hf hP hD hS (lv_sub hl [1, 2, 0] rfl)
    · have hf := oI_f hc6 hf
      refine lv_iconst (v := (0 : Int32)) hx hb dX4_isSoOnlyWhere_27 (by decide) ?_
      exact hR _ hf (by decide) _ _ _ _ dX4_isSoOnlyWhere_28 hP hD hS
set_option maxHeartbeats 4000000 in
set_option maxRecDepth 100000 in
theorem wl_X4_isSoOnlyWhere_2 {p : Program} {l : Launch} {e : Env} {s : State} {m : MethodId} {args : Array Value} {below : List Frame} {meth : Method} {c : Code} {Q : State → Prop} {A : Nat → Prop} {G : va_G} {cI cJ cZ cO : ClassId} {tS : Nat} (a_this : Nat) (a_words : Nat) (a_p1 : Nat) (a_p1_words : Nat) (base_ : Int32) (words_ : (Nat → Int64)) (p1_base_ : Int32) (p1_words_ : (Nat → Int64)) (hA : ∀ q : Nat, s.heap.size ≤ q → A q) (hK : va_K G vwCl (xTY cI cJ cZ cO) s) (hZ : xST tS A s) (M : CallFix p m c cX4_isSoOnlyWhere 3 s args wsX4_isSoOnlyWhere RX4) (res : Int32) (hR : RT_X4_isSoOnlyWhere p l e s m args below meth c Q A G cI cJ cZ cO a_this a_words a_p1 a_p1_words base_ words_ p1_base_ p1_words_ res)   (n : Nat) : ∀ (x2_ : Int32), oF (fun k z => b_X4_isSoOnlyWhere_2 base_ words_ p1_base_ p1_words_ k z) n x2_ = some res → ∀ {H : Heap} {locs : List Loc} {ls : Array Slot}, va_P G vwCl [(a_this, .inr (4, [.ref a_words, .int base_])), (a_words, .inl (cJ, 160, .inr (.inl words_))), (a_p1, .inr (4, [.ref a_p1_words, .int p1_base_])), (a_p1_words, .inl (cJ, 160, .inr (.inl p1_words_)))] H → va_D A [(a_this, .inr (4, [.ref a_words, .int base_])), (a_words, .inl (cJ, 160, .inr (.inl words_))), (a_p1, .inr (4, [.ref a_p1_words, .int p1_base_])), (a_p1_words, .inl (cJ, 160, .inr (.inl p1_words_)))] → va_S A s.heap H locs → lv_has ls 3 [(0, .ref a_this), (1, .ref a_p1), (2, .int x2_)] → W p l e ({ frames := 1, cells := 0, slots := 0, locals := 21 } : Room) s m args below meth c H locs 0 0 Q (F0 m 2 ls []) := by
  induction n with
  | zero => intro x2_ hf; cases hf
  | succ n ih =>
    intro x2_ hf H locs ls hP hD hS hl
    exact wb_X4_isSoOnlyWhere_2 a_this a_words a_p1 a_p1_words base_ words_ p1_base_ p1_words_ hA hK hZ M res hR   _ ih x2_ hf hP hD hS hl
set_option maxHeartbeats 4000000 in
set_option maxRecDepth 100000 in
theorem w_X4_isSoOnlyWhere_0 {p : Program} {l : Launch} {e : Env} {s : State} {m : MethodId} {args : Array Value} {below : List Frame} {meth : Method} {c : Code} {Q : State → Prop} {A : Nat → Prop} {G : va_G} {cI cJ cZ cO : ClassId} {tS : Nat} (a_this : Nat) (a_words : Nat) (a_p1 : Nat) (a_p1_words : Nat) (base_ : Int32) (words_ : (Nat → Int64)) (p1_base_ : Int32) (p1_words_ : (Nat → Int64)) (hA : ∀ q : Nat, s.heap.size ≤ q → A q) (hK : va_K G vwCl (xTY cI cJ cZ cO) s) (hZ : xST tS A s) (M : CallFix p m c cX4_isSoOnlyWhere 3 s args wsX4_isSoOnlyWhere RX4) (res : Int32) (hR : RT_X4_isSoOnlyWhere p l e s m args below meth c Q A G cI cJ cZ cO a_this a_words a_p1 a_p1_words base_ words_ p1_base_ p1_words_ res)   (hf : f_X4_isSoOnlyWhere base_ words_ p1_base_ p1_words_ = some res) {H : Heap} {locs : List Loc} {ls : Array Slot} (hP : va_P G vwCl [(a_this, .inr (4, [.ref a_words, .int base_])), (a_words, .inl (cJ, 160, .inr (.inl words_))), (a_p1, .inr (4, [.ref a_p1_words, .int p1_base_])), (a_p1_words, .inl (cJ, 160, .inr (.inl p1_words_)))] H) (hD : va_D A [(a_this, .inr (4, [.ref a_words, .int base_])), (a_words, .inl (cJ, 160, .inr (.inl words_))), (a_p1, .inr (4, [.ref a_p1_words, .int p1_base_])), (a_p1_words, .inl (cJ, 160, .inr (.inl p1_words_)))]) (hS : va_S A s.heap H locs) (hl : lv_has ls 3 [(0, .ref a_this), (1, .ref a_p1)]) : W p l e ({ frames := 1, cells := 0, slots := 0, locals := 21 } : Room) s m args below meth c H locs 0 0 Q (F0 m 0 ls []) := by
  obtain ⟨hx, hb, hml, hown, hts⟩ := id M
  unfold f_X4_isSoOnlyWhere at hf
  refine lv_iconst (v := (0 : Int32)) hx hb dX4_isSoOnlyWhere_0 (by decide) ?_
  refine lv_istore_n (lv' := [(2, .int (0 : Int32)), (0, .ref a_this), (1, .ref a_p1)]) hx hb dX4_isSoOnlyWhere_1 rfl hl (by decide) rfl (fun ls hl => ?_)
  exact wl_X4_isSoOnlyWhere_2 a_this a_words a_p1 a_p1_words base_ words_ p1_base_ p1_words_ hA hK hZ M res hR   xN (0 : Int32) hf hP hD hS (lv_sub hl [1, 2, 0] rfl)
set_option maxHeartbeats 4000000 in
set_option maxRecDepth 100000 in
theorem c_X4_isSoOnlyWhere (l : Launch) (G : va_G) (cI cJ cZ cO : ClassId) (tS sz : Nat) (a_this : Nat) (a_words : Nat) (a_p1 : Nat) (a_p1_words : Nat) (base_ : Int32) (words_ : (Nat → Int64)) (p1_base_ : Int32) (p1_words_ : (Nat → Int64))  (v_ : Int32) (hf : f_X4_isSoOnlyWhere base_ words_ p1_base_ p1_words_ = some v_) : Met l yX4_isSoOnlyWhere wsX4_isSoOnlyWhere ({ frames := 1, cells := 0, slots := 0, locals := 21 } : Room) (xPre G (xTY cI cJ cZ cO) tS [(a_this, .inr (4, [.ref a_words, .int base_])), (a_words, .inl (cJ, 160, .inr (.inl words_))), (a_p1, .inr (4, [.ref a_p1_words, .int p1_base_])), (a_p1_words, .inl (cJ, 160, .inr (.inl p1_words_)))] sz [.ref a_this, .ref a_p1]) (xQi G [(a_this, .inr (4, [.ref a_words, .int base_])), (a_words, .inl (cJ, 160, .inr (.inl words_))), (a_p1, .inr (4, [.ref a_p1_words, .int p1_base_])), (a_p1_words, .inl (cJ, 160, .inr (.inl p1_words_)))] sz (fun _ : Unit => [(a_this, .inr (4, [.ref a_words, .int base_])), (a_words, .inl (cJ, 160, .inr (.inl words_))), (a_p1, .inr (4, [.ref a_p1_words, .int p1_base_])), (a_p1_words, .inl (cJ, 160, .inr (.inl p1_words_)))]) v_) 0 0 (va_A [(a_this, .inr (4, [.ref a_words, .int base_])), (a_words, .inl (cJ, 160, .inr (.inl words_))), (a_p1, .inr (4, [.ref a_p1_words, .int p1_base_])), (a_p1_words, .inl (cJ, 160, .inr (.inl p1_words_)))] sz) := by
  refine xMet (cc := cX4_isSoOnlyWhere) (maxL := 3) (ret := (some .boolean)) (own := RX4) (by decide +kernel) rfl rfl (Nat.le_of_ble_eq_true rfl) rfl ?_
  intro p e s m below meth c ls M hr hlk hin hsz hA hK hZ hP hD hl
  refine w_X4_isSoOnlyWhere_0 a_this a_words a_p1 a_p1_words base_ words_ p1_base_ p1_words_ hA hK hZ M v_ (fun v_' hres hz H locs ls pc hd hP hD hS => ?_)   hf hP hD va_S.rf hl
  cases hres
  exact xretz (W1 := fun _ : Unit => [(a_this, .inr (4, [.ref a_words, .int base_])), (a_words, .inl (cJ, 160, .inr (.inl words_))), (a_p1, .inr (4, [.ref a_p1_words, .int p1_base_])), (a_p1_words, .inl (cJ, 160, .inr (.inl p1_words_)))]) M hr hlk hz () hP hD hS hd
/-! BetweenBoth$Sentence.hangsOn(II)Z -/
theorem kc_X4_hangsOn_37 : Cond.constantLong RX4 37 (-1) ∈ wsX4_hangsOn := by decide +kernel
theorem hd_X4_hangsOn : yX4_hangsOn.cls = RX4 ∧ yX4_hangsOn.cls ≠ "java/lang/invoke/MethodHandle" ∧ yX4_hangsOn.cls ≠ "java/lang/invoke/VarHandle" ∧ (parseMethodDescriptor yX4_hangsOn.desc).map (fun d => d.parameters.length) = some 2 := by decide +kernel
def RT_X4_hangsOn (p : Program) (l : Launch) (e : Env) (s : State) (m : MethodId) (args : Array Value) (below : List Frame) (meth : Method) (c : Code) (Q : State → Prop) (A : Nat → Prop) (G : va_G) (cI cJ cZ cO : ClassId) (a_this : Nat) (a_words : Nat) (base_ : Int32) (words_ : (Nat → Int64)) (res : Int32) : Prop := ∀ (v_ : Int32), some v_ = some res → (v_ = 0 ∨ v_ = 1) → ∀ (H : Heap) (locs : List Loc) (ls : Array Slot) (pc : Nat), decode cX4_hangsOn pc = .ok (.ireturn, 1) → va_P G vwCl [(a_this, .inr (4, [.ref a_words, .int base_])), (a_words, .inl (cJ, 160, .inr (.inl words_)))] H → va_D A [(a_this, .inr (4, [.ref a_words, .int base_])), (a_words, .inl (cJ, 160, .inr (.inl words_)))] → va_S A s.heap H locs → W p l e ({ frames := 1, cells := 0, slots := 0, locals := 21 } : Room) s m args below meth c H locs 0 0 Q (F0 m pc ls [.int v_])
set_option maxHeartbeats 4000000 in
set_option maxRecDepth 100000 in
theorem w_X4_hangsOn_0 {p : Program} {l : Launch} {e : Env} {s : State} {m : MethodId} {args : Array Value} {below : List Frame} {meth : Method} {c : Code} {Q : State → Prop} {A : Nat → Prop} {G : va_G} {cI cJ cZ cO : ClassId} {tS : Nat} (a_this : Nat) (a_words : Nat) (base_ : Int32) (words_ : (Nat → Int64)) (hA : ∀ q : Nat, s.heap.size ≤ q → A q) (hK : va_K G vwCl (xTY cI cJ cZ cO) s) (hZ : xST tS A s) (M : CallFix p m c cX4_hangsOn 5 s args wsX4_hangsOn RX4) (res : Int32) (hR : RT_X4_hangsOn p l e s m args below meth c Q A G cI cJ cZ cO a_this a_words base_ words_ res)  (x1_ : Int32) (x2_ : Int32) (hf : f_X4_hangsOn base_ words_ x1_ x2_ = some res) {H : Heap} {locs : List Loc} {ls : Array Slot} (hP : va_P G vwCl [(a_this, .inr (4, [.ref a_words, .int base_])), (a_words, .inl (cJ, 160, .inr (.inl words_)))] H) (hD : va_D A [(a_this, .inr (4, [.ref a_words, .int base_])), (a_words, .inl (cJ, 160, .inr (.inl words_)))]) (hS : va_S A s.heap H locs) (hl : lv_has ls 5 [(0, .ref a_this), (1, .int x1_), (2, .int x2_)]) : W p l e ({ frames := 1, cells := 0, slots := 0, locals := 21 } : Room) s m args below meth c H locs 0 0 Q (F0 m 0 ls []) := by
  obtain ⟨hx, hb, hml, hown, hts⟩ := id M
  unfold f_X4_hangsOn at hf
  refine lv_iload_n hx hb dX4_hangsOn_0 rfl (lv_at hl 1 rfl) ?_
  refine lv_bipush (v := (6 : Int32)) hx hb dX4_hangsOn_1 (by decide) ?_
  refine lv_icmp_lt (tgt := 33) hx hb dX4_hangsOn_3 (by decide) (fun hc1 => ?_) (fun hc1 => ?_)
  · have hf := oI_t hc1 hf
    refine lv_aload_n hx hb dX4_hangsOn_33 rfl (lv_at hl 0 rfl) ?_
    refine lv_iload_n hx hb dX4_hangsOn_34 rfl (lv_at hl 2 rfl) ?_
    obtain ⟨r2, hq3, hf⟩ := oB1_e hf
    refine xcl (wr := []) (ws' := fun _ => [(a_this, .inr (4, [.ref a_words, .int base_])), (a_words, .inl (cJ, 160, .inr (.inl words_)))]) hA hP hD hS (xrV (As := [.int x2_]) (rest := []) M hA hK hZ hP hD hS (c_X4_word l G cI cJ cZ cO tS H.size a_this a_words base_ words_ x2_ r2 hq3) (cwV 1 hts gX4_hangsOn_X4_word rfl rfl rfl hd_X4_word ⟨Nat.le_of_ble_eq_true rfl, Nat.le_of_ble_eq_true rfl⟩) [0, 1] rfl rfl 0 rfl rfl rfl hl.1 rfl (Nat.le_of_ble_eq_true rfl) dX4_hangsOn_35 ⟨Nat.le_of_ble_eq_true rfl, Nat.le_of_ble_eq_true rfl⟩) [0, 1] [] [0, 1] rfl rfl rfl rfl (fun _ => rfl) rfl (fun _ H locs hP hD hS => ?_)
    refine lv_aload_n hx hb dX4_hangsOn_38 rfl (lv_at hl 0 rfl) ?_
    refine lv_iload_n hx hb dX4_hangsOn_39 rfl (lv_at hl 2 rfl) ?_
    obtain ⟨r4, hq5, hf⟩ := oB1_e hf
    refine xcl (wr := []) (ws' := fun _ => [(a_this, .inr (4, [.ref a_words, .int base_])), (a_words, .inl (cJ, 160, .inr (.inl words_)))]) hA hP hD hS (xrV (As := [.int x2_]) (rest := [.long r2]) M hA hK hZ hP hD hS (c_X4_word l G cI cJ cZ cO tS H.size a_this a_words base_ words_ x2_ r4 hq5) (cwV 1 hts gX4_hangsOn_X4_word rfl rfl rfl hd_X4_word ⟨Nat.le_of_ble_eq_true rfl, Nat.le_of_ble_eq_true rfl⟩) [0, 1] rfl rfl 0 rfl rfl rfl hl.1 rfl (Nat.le_of_ble_eq_true rfl) dX4_hangsOn_40 ⟨Nat.le_of_ble_eq_true rfl, Nat.le_of_ble_eq_true rfl⟩) [0, 1] [] [0, 1] rfl rfl rfl rfl (fun _ => rfl) rfl (fun _ H locs hP hD hS => ?_)
    refine lv_iconst (v := (1 : Int32)) hx hb dX4_hangsOn_43 (by decide) ?_
    refine lv_iload_n hx hb dX4_hangsOn_44 rfl (lv_at hl 1 rfl) ?_
    refine lv_ishl hx hb dX4_hangsOn_45 ?_
    refine lv_lushr (v := ((r4.toUInt64 >>> (((1 : Int32) <<< (x1_ &&& 31)).toInt64.toUInt64 &&& Int64.toUInt64 63)).toInt64)) hx hb dX4_hangsOn_46 rfl ?_
    refine lv_lxor hx hb dX4_hangsOn_47 ?_
    obtain ⟨x3_6, ex3_6, hf⟩ := oL_e hf
    refine xtopl ex3_6 ?_
    refine lv_lstore_n (lv' := [(3, .long x3_6), (0, .ref a_this), (1, .int x1_), (2, .int x2_)]) hx hb dX4_hangsOn_48 rfl hl (by decide) rfl (fun ls hl => ?_)
    refine lv_lload_n hx hb dX4_hangsOn_49 rfl (lv_at hl 0 rfl) ?_
    refine lv_iload_n hx hb dX4_hangsOn_50 rfl (lv_at hl 2 rfl) ?_
    refine lv_iload_n hx hb dX4_hangsOn_51 rfl (lv_at hl 3 rfl) ?_
    obtain ⟨r7, hq8, hf⟩ := oB1_e hf
    refine xcl (wr := [(a_this, .inr (4, [.ref a_words, .int base_])), (a_words, .inl (cJ, 160, .inr (.inl words_)))]) (ws' := fun _ => [(a_this, .inr (4, [.ref a_words, .int base_])), (a_words, .inl (cJ, 160, .inr (.inl words_)))]) hA hP hD hS (xrS (As := [.int x1_, .int x2_]) (rest := [.long x3_6]) M hA hK hZ hP hD hS (c_X8_whereSo l G cI cJ cZ cO tS H.size x1_ x2_ r7 hq8) (va_cwS 2 hts gX4_hangsOn_X8_whereSo rfl rfl rfl hd_X8_whereSo ⟨Nat.le_of_ble_eq_true rfl, Nat.le_of_ble_eq_true rfl⟩) [] rfl rfl rfl hl.1 rfl (Nat.le_of_ble_eq_true rfl) dX4_hangsOn_52 ⟨Nat.le_of_ble_eq_true rfl, Nat.le_of_ble_eq_true rfl⟩) [] [0, 1] [0, 1] rfl rfl rfl rfl (fun _ => rfl) rfl (fun _ H locs hP hD hS => ?_)
    refine lv_ldc2 (v := (-1)) hx hb hown (hts _ kc_X4_hangsOn_37) dX4_hangsOn_55 ?_
    refine lv_lxor hx hb dX4_hangsOn_58 ?_
    refine lv_land hx hb dX4_hangsOn_59 ?_
    refine lv_lconst (v := (0 : Int64)) hx hb dX4_hangsOn_60 (by decide) ?_
    refine W.lcmp hx hb dX4_hangsOn_61 ?_
    refine lv_if_eq (tgt := 69) hx hb dX4_hangsOn_62 (by decide) (fun hc9 => ?_) (fun hc9 => ?_)
    · have hf := oI_t hc9 hf
      refine lv_iconst (v := (0 : Int32)) hx hb dX4_hangsOn_69 (by decide) ?_
      exact hR _ hf (by decide) _ _ _ _ dX4_hangsOn_70 hP hD hS
    · have hf := oI_f hc9 hf
      refine lv_iconst (v := (1 : Int32)) hx hb dX4_hangsOn_65 (by decide) ?_
      refine lv_goto (tgt := 70) hx hb dX4_hangsOn_66 (by decide) ?_
      exact hR _ hf (by decide) _ _ _ _ dX4_hangsOn_70 hP hD hS
  · have hf := oI_f hc1 hf
    refine lv_aload_n hx hb dX4_hangsOn_6 rfl (lv_at hl 0 rfl) ?_
    refine lv_iload_n hx hb dX4_hangsOn_7 rfl (lv_at hl 2 rfl) ?_
    obtain ⟨r10, hq11, hf⟩ := oB1_e hf
    refine xcl (wr := []) (ws' := fun _ => [(a_this, .inr (4, [.ref a_words, .int base_])), (a_words, .inl (cJ, 160, .inr (.inl words_)))]) hA hP hD hS (xrV (As := [.int x2_]) (rest := []) M hA hK hZ hP hD hS (c_X4_word l G cI cJ cZ cO tS H.size a_this a_words base_ words_ x2_ r10 hq11) (cwV 1 hts gX4_hangsOn_X4_word rfl rfl rfl hd_X4_word ⟨Nat.le_of_ble_eq_true rfl, Nat.le_of_ble_eq_true rfl⟩) [0, 1] rfl rfl 0 rfl rfl rfl hl.1 rfl (Nat.le_of_ble_eq_true rfl) dX4_hangsOn_8 ⟨Nat.le_of_ble_eq_true rfl, Nat.le_of_ble_eq_true rfl⟩) [0, 1] [] [0, 1] rfl rfl rfl rfl (fun _ => rfl) rfl (fun _ H locs hP hD hS => ?_)
    refine lv_aload_n hx hb dX4_hangsOn_11 rfl (lv_at hl 0 rfl) ?_
    refine lv_iload_n hx hb dX4_hangsOn_12 rfl (lv_at hl 2 rfl) ?_
    refine lv_iconst (v := (1 : Int32)) hx hb dX4_hangsOn_13 (by decide) ?_
    refine lv_iload_n hx hb dX4_hangsOn_14 rfl (lv_at hl 1 rfl) ?_
    refine lv_bipush (v := (6 : Int32)) hx hb dX4_hangsOn_15 (by decide) ?_
    refine lv_isub hx hb dX4_hangsOn_17 ?_
    refine lv_ishl hx hb dX4_hangsOn_18 ?_
    refine lv_ixor hx hb dX4_hangsOn_19 ?_
    obtain ⟨r12, hq13, hf⟩ := oB1_e hf
    refine xcl (wr := []) (ws' := fun _ => [(a_this, .inr (4, [.ref a_words, .int base_])), (a_words, .inl (cJ, 160, .inr (.inl words_)))]) hA hP hD hS (xrV (As := [.int (x2_ ^^^ ((1 : Int32) <<< ((x1_ - (6 : Int32)) &&& 31)))]) (rest := [.long r10]) M hA hK hZ hP hD hS (c_X4_word l G cI cJ cZ cO tS H.size a_this a_words base_ words_ (x2_ ^^^ ((1 : Int32) <<< ((x1_ - (6 : Int32)) &&& 31))) r12 hq13) (cwV 1 hts gX4_hangsOn_X4_word rfl rfl rfl hd_X4_word ⟨Nat.le_of_ble_eq_true rfl, Nat.le_of_ble_eq_true rfl⟩) [0, 1] rfl rfl 0 rfl rfl rfl hl.1 rfl (Nat.le_of_ble_eq_true rfl) dX4_hangsOn_20 ⟨Nat.le_of_ble_eq_true rfl, Nat.le_of_ble_eq_true rfl⟩) [0, 1] [] [0, 1] rfl rfl rfl rfl (fun _ => rfl) rfl (fun _ H locs hP hD hS => ?_)
    refine W.lcmp hx hb dX4_hangsOn_23 ?_
    refine lv_if_eq (tgt := 31) hx hb dX4_hangsOn_24 (by decide) (fun hc14 => ?_) (fun hc14 => ?_)
    · have hf := oI_t hc14 hf
      refine lv_iconst (v := (0 : Int32)) hx hb dX4_hangsOn_31 (by decide) ?_
      exact hR _ hf (by decide) _ _ _ _ dX4_hangsOn_32 hP hD hS
    · have hf := oI_f hc14 hf
      refine lv_iconst (v := (1 : Int32)) hx hb dX4_hangsOn_27 (by decide) ?_
      refine lv_goto (tgt := 32) hx hb dX4_hangsOn_28 (by decide) ?_
      exact hR _ hf (by decide) _ _ _ _ dX4_hangsOn_32 hP hD hS
set_option maxHeartbeats 4000000 in
set_option maxRecDepth 100000 in
theorem c_X4_hangsOn (l : Launch) (G : va_G) (cI cJ cZ cO : ClassId) (tS sz : Nat) (a_this : Nat) (a_words : Nat) (base_ : Int32) (words_ : (Nat → Int64)) (x1_ : Int32) (x2_ : Int32) (v_ : Int32) (hf : f_X4_hangsOn base_ words_ x1_ x2_ = some v_) : Met l yX4_hangsOn wsX4_hangsOn ({ frames := 1, cells := 0, slots := 0, locals := 21 } : Room) (xPre G (xTY cI cJ cZ cO) tS [(a_this, .inr (4, [.ref a_words, .int base_])), (a_words, .inl (cJ, 160, .inr (.inl words_)))] sz [.ref a_this, .int x1_, .int x2_]) (xQi G [(a_this, .inr (4, [.ref a_words, .int base_])), (a_words, .inl (cJ, 160, .inr (.inl words_)))] sz (fun _ : Unit => [(a_this, .inr (4, [.ref a_words, .int base_])), (a_words, .inl (cJ, 160, .inr (.inl words_)))]) v_) 0 0 (va_A [(a_this, .inr (4, [.ref a_words, .int base_])), (a_words, .inl (cJ, 160, .inr (.inl words_)))] sz) := by
  refine xMet (cc := cX4_hangsOn) (maxL := 5) (ret := (some .boolean)) (own := RX4) (by decide +kernel) rfl rfl (Nat.le_of_ble_eq_true rfl) rfl ?_
  intro p e s m below meth c ls M hr hlk hin hsz hA hK hZ hP hD hl
  refine w_X4_hangsOn_0 a_this a_words base_ words_ hA hK hZ M v_ (fun v_' hres hz H locs ls pc hd hP hD hS => ?_)  x1_ x2_ hf hP hD va_S.rf hl
  cases hres
  exact xretz (W1 := fun _ : Unit => [(a_this, .inr (4, [.ref a_words, .int base_])), (a_words, .inl (cJ, 160, .inr (.inl words_)))]) M hr hlk hz () hP hD hS hd
/-! BetweenBoth$Sentence.speaksOf()I -/
theorem hd_X4_speaksOf : yX4_speaksOf.cls = RX4 ∧ yX4_speaksOf.cls ≠ "java/lang/invoke/MethodHandle" ∧ yX4_speaksOf.cls ≠ "java/lang/invoke/VarHandle" ∧ (parseMethodDescriptor yX4_speaksOf.desc).map (fun d => d.parameters.length) = some 0 := by decide +kernel
def RT_X4_speaksOf (p : Program) (l : Launch) (e : Env) (s : State) (m : MethodId) (args : Array Value) (below : List Frame) (meth : Method) (c : Code) (Q : State → Prop) (A : Nat → Prop) (G : va_G) (cI cJ cZ cO : ClassId) (a_this : Nat) (a_words : Nat) (base_ : Int32) (words_ : (Nat → Int64)) (res : Int32) : Prop := ∀ (v_ : Int32), some v_ = some res → ∀ (H : Heap) (locs : List Loc) (ls : Array Slot) (pc : Nat), decode cX4_speaksOf pc = .ok (.ireturn, 1) → va_P G vwCl [(a_this, .inr (4, [.ref a_words, .int base_])), (a_words, .inl (cJ, 160, .inr (.inl words_)))] H → va_D A [(a_this, .inr (4, [.ref a_words, .int base_])), (a_words, .inl (cJ, 160, .inr (.inl words_)))] → va_S A s.heap H locs → W p l e ({ frames := 2, cells := 0, slots := 0, locals := 45 } : Room) s m args below meth c H locs 0 0 Q (F0 m pc ls [.int v_])
set_option maxHeartbeats 4000000 in
set_option maxRecDepth 100000 in
theorem w_X4_speaksOf_32 {p : Program} {l : Launch} {e : Env} {s : State} {m : MethodId} {args : Array Value} {below : List Frame} {meth : Method} {c : Code} {Q : State → Prop} {A : Nat → Prop} {G : va_G} {cI cJ cZ cO : ClassId} {tS : Nat} (a_this : Nat) (a_words : Nat) (base_ : Int32) (words_ : (Nat → Int64)) (hA : ∀ q : Nat, s.heap.size ≤ q → A q) (hK : va_K G vwCl (xTY cI cJ cZ cO) s) (hZ : xST tS A s) (M : CallFix p m c cX4_speaksOf 4 s args wsX4_speaksOf RX4) (res : Int32) (hR : RT_X4_speaksOf p l e s m args below meth c Q A G cI cJ cZ cO a_this a_words base_ words_ res) (x1_ : Int32) (x2_ : Int32) (x3_ : Int32) (k4 : (Int32 × Int32) → Option (Int32)) (hk4 : ∀ (x1_ : Int32) (x2_ : Int32), k4 (x1_, x2_) = some res → ∀ {H : Heap} {locs : List Loc} {ls : Array Slot}, va_P G vwCl [(a_this, .inr (4, [.ref a_words, .int base_])), (a_words, .inl (cJ, 160, .inr (.inl words_)))] H → va_D A [(a_this, .inr (4, [.ref a_words, .int base_])), (a_words, .inl (cJ, 160, .inr (.inl words_)))] → va_S A s.heap H locs → lv_has ls 4 [(0, .ref a_this), (1, .int x1_), (2, .int x2_)] → W p l e ({ frames := 2, cells := 0, slots := 0, locals := 45 } : Room) s m args below meth c H locs 0 0 Q (F0 m 4 ls [])) (k12 : (Int32 × Int32) → Option (Int32)) (hk12 : ∀ (x1_ : Int32) (x3_ : Int32), k12 (x1_, x3_) = some res → ∀ {H : Heap} {locs : List Loc} {ls : Array Slot}, va_P G vwCl [(a_this, .inr (4, [.ref a_words, .int base_])), (a_words, .inl (cJ, 160, .inr (.inl words_)))] H → va_D A [(a_this, .inr (4, [.ref a_words, .int base_])), (a_words, .inl (cJ, 160, .inr (.inl words_)))] → va_S A s.heap H locs → lv_has ls 4 [(0, .ref a_this), (1, .int x1_), (2, .int x2_), (3, .int x3_)] → W p l e ({ frames := 2, cells := 0, slots := 0, locals := 45 } : Room) s m args below meth c H locs 0 0 Q (F0 m 12 ls [])) (hf : f_X4_speaksOf_32 x1_ x3_ k12 = some res) {H : Heap} {locs : List Loc} {ls : Array Slot} (hP : va_P G vwCl [(a_this, .inr (4, [.ref a_words, .int base_])), (a_words, .inl (cJ, 160, .inr (.inl words_)))] H) (hD : va_D A [(a_this, .inr (4, [.ref a_words, .int base_])), (a_words, .inl (cJ, 160, .inr (.inl words_)))]) (hS : va_S A s.heap H locs) (hl : lv_has ls 4 [(0, .ref a_this), (1, .int x1_), (2, .int x2_), (3, .int x3_)]) : W p l e ({ frames := 2, cells := 0, slots := 0, locals := 45 } : Room) s m args below meth c H locs 0 0 Q (F0 m 32 ls []) := by
  obtain ⟨hx, hb, hml, hown, hts⟩ := id M
  unfold f_X4_speaksOf_32 at hf
  obtain ⟨x3_1, ex3_1, hf⟩ := oL_e hf
  refine lv_iinc (v := x3_1) (lv' := [(3, .int x3_1), (0, .ref a_this), (1, .int x1_), (2, .int x2_)]) hx hb dX4_speaksOf_32 hl (k := 3) rfl (by rw [← ex3_1]; rfl) (by decide) rfl (fun ls hl => ?_)
  refine lv_goto (tgt := 12) hx hb dX4_speaksOf_35 (by decide) ?_
  exact hk12 _ _ hf hP hD hS (lv_sub hl [1, 2, 3, 0] rfl)
set_option maxHeartbeats 4000000 in
set_option maxRecDepth 100000 in
theorem wb_X4_speaksOf_12 {p : Program} {l : Launch} {e : Env} {s : State} {m : MethodId} {args : Array Value} {below : List Frame} {meth : Method} {c : Code} {Q : State → Prop} {A : Nat → Prop} {G : va_G} {cI cJ cZ cO : ClassId} {tS : Nat} (a_this : Nat) (a_words : Nat) (base_ : Int32) (words_ : (Nat → Int64)) (hA : ∀ q : Nat, s.heap.size ≤ q → A q) (hK : va_K G vwCl (xTY cI cJ cZ cO) s) (hZ : xST tS A s) (M : CallFix p m c cX4_speaksOf 4 s args wsX4_speaksOf RX4) (res : Int32) (hR : RT_X4_speaksOf p l e s m args below meth c Q A G cI cJ cZ cO a_this a_words base_ words_ res) (x2_ : Int32) (k4 : (Int32 × Int32) → Option (Int32)) (hk4 : ∀ (x1_ : Int32) (x2_ : Int32), k4 (x1_, x2_) = some res → ∀ {H : Heap} {locs : List Loc} {ls : Array Slot}, va_P G vwCl [(a_this, .inr (4, [.ref a_words, .int base_])), (a_words, .inl (cJ, 160, .inr (.inl words_)))] H → va_D A [(a_this, .inr (4, [.ref a_words, .int base_])), (a_words, .inl (cJ, 160, .inr (.inl words_)))] → va_S A s.heap H locs → lv_has ls 4 [(0, .ref a_this), (1, .int x1_), (2, .int x2_)] → W p l e ({ frames := 2, cells := 0, slots := 0, locals := 45 } : Room) s m args below meth c H locs 0 0 Q (F0 m 4 ls [])) (k12 : (Int32 × Int32) → Option (Int32)) (hk12 : ∀ (x1_ : Int32) (x3_ : Int32), k12 (x1_, x3_) = some res → ∀ {H : Heap} {locs : List Loc} {ls : Array Slot}, va_P G vwCl [(a_this, .inr (4, [.ref a_words, .int base_])), (a_words, .inl (cJ, 160, .inr (.inl words_)))] H → va_D A [(a_this, .inr (4, [.ref a_words, .int base_])), (a_words, .inl (cJ, 160, .inr (.inl words_)))] → va_S A s.heap H locs → lv_has ls 4 [(0, .ref a_this), (1, .int x1_), (2, .int x2_), (3, .int x3_)] → W p l e ({ frames := 2, cells := 0, slots := 0, locals := 45 } : Room) s m args below meth c H locs 0 0 Q (F0 m 12 ls [])) (x1_ : Int32) (x3_ : Int32) (hf : b_X4_speaksOf_12 base_ words_ x2_ k4 k12 x1_ x3_ = some res) {H : Heap} {locs : List Loc} {ls : Array Slot} (hP : va_P G vwCl [(a_this, .inr (4, [.ref a_words, .int base_])), (a_words, .inl (cJ, 160, .inr (.inl words_)))] H) (hD : va_D A [(a_this, .inr (4, [.ref a_words, .int base_])), (a_words, .inl (cJ, 160, .inr (.inl words_)))]) (hS : va_S A s.heap H locs) (hl : lv_has ls 4 [(0, .ref a_this), (1, .int x1_), (2, .int x2_), (3, .int x3_)]) : W p l e ({ frames := 2, cells := 0, slots := 0, locals := 45 } : Room) s m args below meth c H locs 0 0 Q (F0 m 12 ls []) := by
  obtain ⟨hx, hb, hml, hown, hts⟩ := id M
  unfold b_X4_speaksOf_12 at hf
  refine lv_iload_n hx hb dX4_speaksOf_12 rfl (lv_at hl 3 rfl) ?_
  refine lv_iconst (v := (4 : Int32)) hx hb dX4_speaksOf_13 (by decide) ?_
  refine lv_icmp_ge (tgt := 38) hx hb dX4_speaksOf_14 (by decide) (fun hc1 => ?_) (fun hc1 => ?_)
  · have hf := oI_t hc1 hf
    obtain ⟨x2_2, ex2_2, hf⟩ := oL_e hf
    refine lv_iinc (v := x2_2) (lv' := [(2, .int x2_2), (0, .ref a_this), (1, .int x1_), (3, .int x3_)]) hx hb dX4_speaksOf_38 hl (k := 2) rfl (by rw [← ex2_2]; rfl) (by decide) rfl (fun ls hl => ?_)
    refine lv_goto (tgt := 4) hx hb dX4_speaksOf_41 (by decide) ?_
    exact hk4 _ _ hf hP hD hS (lv_sub hl [1, 2, 0] rfl)
  · have hf := oI_f hc1 hf
    refine lv_aload_n hx hb dX4_speaksOf_17 rfl (lv_at hl 0 rfl) ?_
    refine lv_iload_n hx hb dX4_speaksOf_18 rfl (lv_at hl 2 rfl) ?_
    refine lv_iload_n hx hb dX4_speaksOf_19 rfl (lv_at hl 3 rfl) ?_
    obtain ⟨r3, hq4, hf⟩ := oB1_e hf
    refine xci (wr := []) (ws' := fun _ => [(a_this, .inr (4, [.ref a_words, .int base_])), (a_words, .inl (cJ, 160, .inr (.inl words_)))]) hA hP hD hS (xrV (As := [.int x2_, .int x3_]) (rest := []) M hA hK hZ hP hD hS (c_X4_hangsOn l G cI cJ cZ cO tS H.size a_this a_words base_ words_ x2_ x3_ r3 hq4) (cwV 2 hts gX4_speaksOf_X4_hangsOn rfl rfl rfl hd_X4_hangsOn ⟨Nat.le_of_ble_eq_true rfl, Nat.le_of_ble_eq_true rfl⟩) [0, 1] rfl rfl 0 rfl rfl rfl hl.1 rfl (Nat.le_of_ble_eq_true rfl) dX4_speaksOf_20 ⟨Nat.le_of_ble_eq_true rfl, Nat.le_of_ble_eq_true rfl⟩) [0, 1] [] [0, 1] rfl rfl rfl rfl (fun _ => rfl) rfl (fun _ H locs hP hD hS => ?_)
    refine lv_if_eq (tgt := 32) hx hb dX4_speaksOf_23 (by decide) (fun hc5 => ?_) (fun hc5 => ?_)
    · have hf := oI_t hc5 hf
      exact w_X4_speaksOf_32 a_this a_words base_ words_ hA hK hZ M res hR x1_ x2_ x3_ k4 hk4 k12 hk12 hf hP hD hS (lv_sub hl [0, 1, 2, 3] rfl)
    · have hf := oI_f hc5 hf
      refine lv_iload_n hx hb dX4_speaksOf_26 rfl (lv_at hl 1 rfl) ?_
      refine lv_iconst (v := (1 : Int32)) hx hb dX4_speaksOf_27 (by decide) ?_
      refine lv_iload_n hx hb dX4_speaksOf_28 rfl (lv_at hl 2 rfl) ?_
      refine lv_ishl hx hb dX4_speaksOf_29 ?_
      refine lv_ior hx hb dX4_speaksOf_30 ?_
      obtain ⟨x1_6, ex1_6, hf⟩ := oL_e hf
      refine xtopi ex1_6 ?_
      refine lv_istore_n (lv' := [(1, .int x1_6), (0, .ref a_this), (2, .int x2_), (3, .int x3_)]) hx hb dX4_speaksOf_31 rfl hl (by decide) rfl (fun ls hl => ?_)
      exact w_X4_speaksOf_32 a_this a_words base_ words_ hA hK hZ M res hR x1_6 x2_ x3_ k4 hk4 k12 hk12 hf hP hD hS (lv_sub hl [1, 0, 2, 3] rfl)
set_option maxHeartbeats 4000000 in
set_option maxRecDepth 100000 in
theorem wl_X4_speaksOf_12 {p : Program} {l : Launch} {e : Env} {s : State} {m : MethodId} {args : Array Value} {below : List Frame} {meth : Method} {c : Code} {Q : State → Prop} {A : Nat → Prop} {G : va_G} {cI cJ cZ cO : ClassId} {tS : Nat} (a_this : Nat) (a_words : Nat) (base_ : Int32) (words_ : (Nat → Int64)) (hA : ∀ q : Nat, s.heap.size ≤ q → A q) (hK : va_K G vwCl (xTY cI cJ cZ cO) s) (hZ : xST tS A s) (M : CallFix p m c cX4_speaksOf 4 s args wsX4_speaksOf RX4) (res : Int32) (hR : RT_X4_speaksOf p l e s m args below meth c Q A G cI cJ cZ cO a_this a_words base_ words_ res) (x2_ : Int32) (k4 : (Int32 × Int32) → Option (Int32)) (hk4 : ∀ (x1_ : Int32) (x2_ : Int32), k4 (x1_, x2_) = some res → ∀ {H : Heap} {locs : List Loc} {ls : Array Slot}, va_P G vwCl [(a_this, .inr (4, [.ref a_words, .int base_])), (a_words, .inl (cJ, 160, .inr (.inl words_)))] H → va_D A [(a_this, .inr (4, [.ref a_words, .int base_])), (a_words, .inl (cJ, 160, .inr (.inl words_)))] → va_S A s.heap H locs → lv_has ls 4 [(0, .ref a_this), (1, .int x1_), (2, .int x2_)] → W p l e ({ frames := 2, cells := 0, slots := 0, locals := 45 } : Room) s m args below meth c H locs 0 0 Q (F0 m 4 ls [])) (n : Nat) : ∀ (x1_ : Int32) (x3_ : Int32), oF (fun k z => b_X4_speaksOf_12 base_ words_ x2_ k4 k z.1 z.2) n (x1_, x3_) = some res → ∀ {H : Heap} {locs : List Loc} {ls : Array Slot}, va_P G vwCl [(a_this, .inr (4, [.ref a_words, .int base_])), (a_words, .inl (cJ, 160, .inr (.inl words_)))] H → va_D A [(a_this, .inr (4, [.ref a_words, .int base_])), (a_words, .inl (cJ, 160, .inr (.inl words_)))] → va_S A s.heap H locs → lv_has ls 4 [(0, .ref a_this), (1, .int x1_), (2, .int x2_), (3, .int x3_)] → W p l e ({ frames := 2, cells := 0, slots := 0, locals := 45 } : Room) s m args below meth c H locs 0 0 Q (F0 m 12 ls []) := by
  induction n with
  | zero => intro x1_ x3_ hf; cases hf
  | succ n ih =>
    intro x1_ x3_ hf H locs ls hP hD hS hl
    exact wb_X4_speaksOf_12 a_this a_words base_ words_ hA hK hZ M res hR x2_ k4 hk4 _ ih x1_ x3_ hf hP hD hS hl
set_option maxHeartbeats 4000000 in
set_option maxRecDepth 100000 in
theorem wb_X4_speaksOf_4 {p : Program} {l : Launch} {e : Env} {s : State} {m : MethodId} {args : Array Value} {below : List Frame} {meth : Method} {c : Code} {Q : State → Prop} {A : Nat → Prop} {G : va_G} {cI cJ cZ cO : ClassId} {tS : Nat} (a_this : Nat) (a_words : Nat) (base_ : Int32) (words_ : (Nat → Int64)) (hA : ∀ q : Nat, s.heap.size ≤ q → A q) (hK : va_K G vwCl (xTY cI cJ cZ cO) s) (hZ : xST tS A s) (M : CallFix p m c cX4_speaksOf 4 s args wsX4_speaksOf RX4) (res : Int32) (hR : RT_X4_speaksOf p l e s m args below meth c Q A G cI cJ cZ cO a_this a_words base_ words_ res)   (k4 : (Int32 × Int32) → Option (Int32)) (hk4 : ∀ (x1_ : Int32) (x2_ : Int32), k4 (x1_, x2_) = some res → ∀ {H : Heap} {locs : List Loc} {ls : Array Slot}, va_P G vwCl [(a_this, .inr (4, [.ref a_words, .int base_])), (a_words, .inl (cJ, 160, .inr (.inl words_)))] H → va_D A [(a_this, .inr (4, [.ref a_words, .int base_])), (a_words, .inl (cJ, 160, .inr (.inl words_)))] → va_S A s.heap H locs → lv_has ls 4 [(0, .ref a_this), (1, .int x1_), (2, .int x2_)] → W p l e ({ frames := 2, cells := 0, slots := 0, locals := 45 } : Room) s m args below meth c H locs 0 0 Q (F0 m 4 ls [])) (x1_ : Int32) (x2_ : Int32) (hf : b_X4_speaksOf_4 base_ words_ k4 x1_ x2_ = some res) {H : Heap} {locs : List Loc} {ls : Array Slot} (hP : va_P G vwCl [(a_this, .inr (4, [.ref a_words, .int base_])), (a_words, .inl (cJ, 160, .inr (.inl words_)))] H) (hD : va_D A [(a_this, .inr (4, [.ref a_words, .int base_])), (a_words, .inl (cJ, 160, .inr (.inl words_)))]) (hS : va_S A s.heap H locs) (hl : lv_has ls 4 [(0, .ref a_this), (1, .int x1_), (2, .int x2_)]) : W p l e ({ frames := 2, cells := 0, slots := 0, locals := 45 } : Room) s m args below meth c H locs 0 0 Q (F0 m 4 ls []) := by
  obtain ⟨hx, hb, hml, hown, hts⟩ := id M
  unfold b_X4_speaksOf_4 at hf
  refine lv_iload_n hx hb dX4_speaksOf_4 rfl (lv_at hl 2 rfl) ?_
  refine lv_bipush (v := (8 : Int32)) hx hb dX4_speaksOf_5 (by decide) ?_
  refine lv_icmp_ge (tgt := 44) hx hb dX4_speaksOf_7 (by decide) (fun hc1 => ?_) (fun hc1 => ?_)
  · have hf := oI_t hc1 hf
    refine lv_iload_n hx hb dX4_speaksOf_44 rfl (lv_at hl 1 rfl) ?_
    exact hR _ hf _ _ _ _ dX4_speaksOf_45 hP hD hS
  · have hf := oI_f hc1 hf
    refine lv_iconst (v := (0 : Int32)) hx hb dX4_speaksOf_10 (by decide) ?_
    refine lv_istore_n (lv' := [(3, .int (0 : Int32)), (0, .ref a_this), (1, .int x1_), (2, .int x2_)]) hx hb dX4_speaksOf_11 rfl hl (by decide) rfl (fun ls hl => ?_)
    exact wl_X4_speaksOf_12 a_this a_words base_ words_ hA hK hZ M res hR x2_ k4 hk4 xN x1_ (0 : Int32) hf hP hD hS (lv_sub hl [1, 2, 3, 0] rfl)
set_option maxHeartbeats 4000000 in
set_option maxRecDepth 100000 in
theorem wl_X4_speaksOf_4 {p : Program} {l : Launch} {e : Env} {s : State} {m : MethodId} {args : Array Value} {below : List Frame} {meth : Method} {c : Code} {Q : State → Prop} {A : Nat → Prop} {G : va_G} {cI cJ cZ cO : ClassId} {tS : Nat} (a_this : Nat) (a_words : Nat) (base_ : Int32) (words_ : (Nat → Int64)) (hA : ∀ q : Nat, s.heap.size ≤ q → A q) (hK : va_K G vwCl (xTY cI cJ cZ cO) s) (hZ : xST tS A s) (M : CallFix p m c cX4_speaksOf 4 s args wsX4_speaksOf RX4) (res : Int32) (hR : RT_X4_speaksOf p l e s m args below meth c Q A G cI cJ cZ cO a_this a_words base_ words_ res)   (n : Nat) : ∀ (x1_ : Int32) (x2_ : Int32), oF (fun k z => b_X4_speaksOf_4 base_ words_ k z.1 z.2) n (x1_, x2_) = some res → ∀ {H : Heap} {locs : List Loc} {ls : Array Slot}, va_P G vwCl [(a_this, .inr (4, [.ref a_words, .int base_])), (a_words, .inl (cJ, 160, .inr (.inl words_)))] H → va_D A [(a_this, .inr (4, [.ref a_words, .int base_])), (a_words, .inl (cJ, 160, .inr (.inl words_)))] → va_S A s.heap H locs → lv_has ls 4 [(0, .ref a_this), (1, .int x1_), (2, .int x2_)] → W p l e ({ frames := 2, cells := 0, slots := 0, locals := 45 } : Room) s m args below meth c H locs 0 0 Q (F0 m 4 ls []) := by
  induction n with
  | zero => intro x1_ x2_ hf; cases hf
  | succ n ih =>
    intro x1_ x2_ hf H locs ls hP hD hS hl
    exact wb_X4_speaksOf_4 a_this a_words base_ words_ hA hK hZ M res hR   _ ih x1_ x2_ hf hP hD hS hl
set_option maxHeartbeats 4000000 in
set_option maxRecDepth 100000 in
theorem w_X4_speaksOf_0 {p : Program} {l : Launch} {e : Env} {s : State} {m : MethodId} {args : Array Value} {below : List Frame} {meth : Method} {c : Code} {Q : State → Prop} {A : Nat → Prop} {G : va_G} {cI cJ cZ cO : ClassId} {tS : Nat} (a_this : Nat) (a_words : Nat) (base_ : Int32) (words_ : (Nat → Int64)) (hA : ∀ q : Nat, s.heap.size ≤ q → A q) (hK : va_K G vwCl (xTY cI cJ cZ cO) s) (hZ : xST tS A s) (M : CallFix p m c cX4_speaksOf 4 s args wsX4_speaksOf RX4) (res : Int32) (hR : RT_X4_speaksOf p l e s m args below meth c Q A G cI cJ cZ cO a_this a_words base_ words_ res)   (hf : f_X4_speaksOf base_ words_ = some res) {H : Heap} {locs : List Loc} {ls : Array Slot} (hP : va_P G vwCl [(a_this, .inr (4, [.ref a_words, .int base_])), (a_words, .inl (cJ, 160, .inr (.inl words_)))] H) (hD : va_D A [(a_this, .inr (4, [.ref a_words, .int base_])), (a_words, .inl (cJ, 160, .inr (.inl words_)))]) (hS : va_S A s.heap H locs) (hl : lv_has ls 4 [(0, .ref a_this)]) : W p l e ({ frames := 2, cells := 0, slots := 0, locals := 45 } : Room) s m args below meth c H locs 0 0 Q (F0 m 0 ls []) := by
  obtain ⟨hx, hb, hml, hown, hts⟩ := id M
  unfold f_X4_speaksOf at hf
  refine lv_iconst (v := (0 : Int32)) hx hb dX4_speaksOf_0 (by decide) ?_
  refine lv_istore_n (lv' := [(1, .int (0 : Int32)), (0, .ref a_this)]) hx hb dX4_speaksOf_1 rfl hl (by decide) rfl (fun ls hl => ?_)
  refine lv_iconst (v := (0 : Int32)) hx hb dX4_speaksOf_2 (by decide) ?_
  refine lv_istore_n (lv' := [(2, .int (0 : Int32)), (1, .int (0 : Int32)), (0, .ref a_this)]) hx hb dX4_speaksOf_3 rfl hl (by decide) rfl (fun ls hl => ?_)
  exact wl_X4_speaksOf_4 a_this a_words base_ words_ hA hK hZ M res hR   xN (0 : Int32) (0 : Int32) hf hP hD hS (lv_sub hl [2, 1, 0] rfl)
set_option maxHeartbeats 4000000 in
set_option maxRecDepth 100000 in
theorem c_X4_speaksOf (l : Launch) (G : va_G) (cI cJ cZ cO : ClassId) (tS sz : Nat) (a_this : Nat) (a_words : Nat) (base_ : Int32) (words_ : (Nat → Int64))  (v_ : Int32) (hf : f_X4_speaksOf base_ words_ = some v_) : Met l yX4_speaksOf wsX4_speaksOf ({ frames := 2, cells := 0, slots := 0, locals := 45 } : Room) (xPre G (xTY cI cJ cZ cO) tS [(a_this, .inr (4, [.ref a_words, .int base_])), (a_words, .inl (cJ, 160, .inr (.inl words_)))] sz [.ref a_this]) (xQi G [(a_this, .inr (4, [.ref a_words, .int base_])), (a_words, .inl (cJ, 160, .inr (.inl words_)))] sz (fun _ : Unit => [(a_this, .inr (4, [.ref a_words, .int base_])), (a_words, .inl (cJ, 160, .inr (.inl words_)))]) v_) 0 0 (va_A [(a_this, .inr (4, [.ref a_words, .int base_])), (a_words, .inl (cJ, 160, .inr (.inl words_)))] sz) := by
  refine xMet (cc := cX4_speaksOf) (maxL := 4) (ret := (some .int)) (own := RX4) (by decide +kernel) rfl rfl (Nat.le_of_ble_eq_true rfl) rfl ?_
  intro p e s m below meth c ls M hr hlk hin hsz hA hK hZ hP hD hl
  refine w_X4_speaksOf_0 a_this a_words base_ words_ hA hK hZ M v_ (fun v_' hres H locs ls pc hd hP hD hS => ?_)   hf hP hD va_S.rf hl
  cases hres
  exact xreti (W1 := fun _ : Unit => [(a_this, .inr (4, [.ref a_words, .int base_])), (a_words, .inl (cJ, 160, .inr (.inl words_)))]) M hr hlk () hP hD hS hd
/-! BetweenBoth$Steps.has(I)Z -/
theorem uw_X5_has_X5 : ∀ w ∈ u_ws RX5 TX5 5, w ∈ wsX5_has := by decide +kernel
theorem fl_X5_has_15 : Cond.fieldLink RX5 15 "BetweenBoth$Steps" (TX5 2).2.1 (TX5 2).2.2.1 ∈ wsX5_has := by decide +kernel
theorem hd_X5_has : yX5_has.cls = RX5 ∧ yX5_has.cls ≠ "java/lang/invoke/MethodHandle" ∧ yX5_has.cls ≠ "java/lang/invoke/VarHandle" ∧ (parseMethodDescriptor yX5_has.desc).map (fun d => d.parameters.length) = some 1 := by decide +kernel
def RT_X5_has (p : Program) (l : Launch) (e : Env) (s : State) (m : MethodId) (args : Array Value) (below : List Frame) (meth : Method) (c : Code) (Q : State → Prop) (A : Nat → Prop) (G : va_G) (cI cJ cZ cO : ClassId) (a_this : Nat) (u_cells_ : Value) (u_clauses_ : Value) (u_lettersOfA_ : Value) (u_lettersOfB_ : Value) (count_ : Int32) (res : Int32) : Prop := ∀ (v_ : Int32), some v_ = some res → (v_ = 0 ∨ v_ = 1) → ∀ (H : Heap) (locs : List Loc) (ls : Array Slot) (pc : Nat), decode cX5_has pc = .ok (.ireturn, 1) → va_P G vwCl [(a_this, .inr (5, [u_cells_, u_clauses_, .int count_, u_lettersOfA_, u_lettersOfB_]))] H → va_D A [(a_this, .inr (5, [u_cells_, u_clauses_, .int count_, u_lettersOfA_, u_lettersOfB_]))] → va_S A s.heap H locs → W p l e ({ frames := 0, cells := 0, slots := 0, locals := 0 } : Room) s m args below meth c H locs 0 0 Q (F0 m pc ls [.int v_])
set_option maxHeartbeats 4000000 in
set_option maxRecDepth 100000 in
theorem w_X5_has_0 {p : Program} {l : Launch} {e : Env} {s : State} {m : MethodId} {args : Array Value} {below : List Frame} {meth : Method} {c : Code} {Q : State → Prop} {A : Nat → Prop} {G : va_G} {cI cJ cZ cO : ClassId} {tS : Nat} (a_this : Nat) (u_cells_ : Value) (u_clauses_ : Value) (u_lettersOfA_ : Value) (u_lettersOfB_ : Value) (count_ : Int32) (hA : ∀ q : Nat, s.heap.size ≤ q → A q) (hK : va_K G vwCl (xTY cI cJ cZ cO) s) (hZ : xST tS A s) (M : CallFix p m c cX5_has 2 s args wsX5_has RX5) (res : Int32) (hR : RT_X5_has p l e s m args below meth c Q A G cI cJ cZ cO a_this u_cells_ u_clauses_ u_lettersOfA_ u_lettersOfB_ count_ res)  (x1_ : Int32) (hf : f_X5_has count_ x1_ = some res) {H : Heap} {locs : List Loc} {ls : Array Slot} (hP : va_P G vwCl [(a_this, .inr (5, [u_cells_, u_clauses_, .int count_, u_lettersOfA_, u_lettersOfB_]))] H) (hD : va_D A [(a_this, .inr (5, [u_cells_, u_clauses_, .int count_, u_lettersOfA_, u_lettersOfB_]))]) (hS : va_S A s.heap H locs) (hl : lv_has ls 2 [(0, .ref a_this), (1, .int x1_)]) : W p l e ({ frames := 0, cells := 0, slots := 0, locals := 0 } : Room) s m args below meth c H locs 0 0 Q (F0 m 0 ls []) := by
  obtain ⟨hx, hb, hml, hown, hts⟩ := id M
  unfold f_X5_has at hf
  refine lv_iload_n hx hb dX5_has_0 rfl (lv_at hl 1 rfl) ?_
  refine lv_if_lt (tgt := 16) hx hb dX5_has_1 (by decide) (fun hc1 => ?_) (fun hc1 => ?_)
  · have hf := oI_t hc1 hf
    refine lv_iconst (v := (0 : Int32)) hx hb dX5_has_16 (by decide) ?_
    exact hR _ hf (by decide) _ _ _ _ dX5_has_17 hP hD hS
  · have hf := oI_f hc1 hf
    refine lv_iload_n hx hb dX5_has_4 rfl (lv_at hl 1 rfl) ?_
    refine lv_aload_n hx hb dX5_has_5 rfl (lv_at hl 0 rfl) ?_
    refine xget M (C := RX5) (T := TX5) (N := 5) (ci := 5) (v := .int count_) uw_X5_has_X5 hK hP 0 rfl rfl 2 (by decide) fl_X5_has_15 rfl rfl dX5_has_6 ?_
    refine lv_icmp_ge (tgt := 16) hx hb dX5_has_9 (by decide) (fun hc2 => ?_) (fun hc2 => ?_)
    · have hf := oI_t hc2 hf
      refine lv_iconst (v := (0 : Int32)) hx hb dX5_has_16 (by decide) ?_
      exact hR _ hf (by decide) _ _ _ _ dX5_has_17 hP hD hS
    · have hf := oI_f hc2 hf
      refine lv_iconst (v := (1 : Int32)) hx hb dX5_has_12 (by decide) ?_
      refine lv_goto (tgt := 17) hx hb dX5_has_13 (by decide) ?_
      exact hR _ hf (by decide) _ _ _ _ dX5_has_17 hP hD hS
set_option maxHeartbeats 4000000 in
set_option maxRecDepth 100000 in
theorem c_X5_has (l : Launch) (G : va_G) (cI cJ cZ cO : ClassId) (tS sz : Nat) (a_this : Nat) (u_cells_ : Value) (u_clauses_ : Value) (u_lettersOfA_ : Value) (u_lettersOfB_ : Value) (count_ : Int32) (x1_ : Int32) (v_ : Int32) (hf : f_X5_has count_ x1_ = some v_) : Met l yX5_has wsX5_has ({ frames := 0, cells := 0, slots := 0, locals := 0 } : Room) (xPre G (xTY cI cJ cZ cO) tS [(a_this, .inr (5, [u_cells_, u_clauses_, .int count_, u_lettersOfA_, u_lettersOfB_]))] sz [.ref a_this, .int x1_]) (xQi G [(a_this, .inr (5, [u_cells_, u_clauses_, .int count_, u_lettersOfA_, u_lettersOfB_]))] sz (fun _ : Unit => [(a_this, .inr (5, [u_cells_, u_clauses_, .int count_, u_lettersOfA_, u_lettersOfB_]))]) v_) 0 0 (va_A [(a_this, .inr (5, [u_cells_, u_clauses_, .int count_, u_lettersOfA_, u_lettersOfB_]))] sz) := by
  refine xMet (cc := cX5_has) (maxL := 2) (ret := (some .boolean)) (own := RX5) (by decide +kernel) rfl rfl (Nat.le_of_ble_eq_true rfl) rfl ?_
  intro p e s m below meth c ls M hr hlk hin hsz hA hK hZ hP hD hl
  refine w_X5_has_0 a_this u_cells_ u_clauses_ u_lettersOfA_ u_lettersOfB_ count_ hA hK hZ M v_ (fun v_' hres hz H locs ls pc hd hP hD hS => ?_)  x1_ hf hP hD va_S.rf hl
  cases hres
  exact xretz (W1 := fun _ : Unit => [(a_this, .inr (5, [u_cells_, u_clauses_, .int count_, u_lettersOfA_, u_lettersOfB_]))]) M hr hlk hz () hP hD hS hd
/-! BetweenBoth$Steps.forgetAll()V -/
theorem uw_X5_forgetAll_X5 : ∀ w ∈ u_ws RX5 TX5 5, w ∈ wsX5_forgetAll := by decide +kernel
theorem fl_X5_forgetAll_19 : Cond.fieldLink RX5 19 "BetweenBoth$Steps" (TX5 1).2.1 (TX5 1).2.2.1 ∈ wsX5_forgetAll := by decide +kernel
theorem fl_X5_forgetAll_15 : Cond.fieldLink RX5 15 "BetweenBoth$Steps" (TX5 2).2.1 (TX5 2).2.2.1 ∈ wsX5_forgetAll := by decide +kernel
theorem fl_X5_forgetAll_22 : Cond.fieldLink RX5 22 "BetweenBoth$Steps" (TX5 3).2.1 (TX5 3).2.2.1 ∈ wsX5_forgetAll := by decide +kernel
theorem fl_X5_forgetAll_25 : Cond.fieldLink RX5 25 "BetweenBoth$Steps" (TX5 4).2.1 (TX5 4).2.2.1 ∈ wsX5_forgetAll := by decide +kernel
theorem hd_X5_forgetAll : yX5_forgetAll.cls = RX5 ∧ yX5_forgetAll.cls ≠ "java/lang/invoke/MethodHandle" ∧ yX5_forgetAll.cls ≠ "java/lang/invoke/VarHandle" ∧ (parseMethodDescriptor yX5_forgetAll.desc).map (fun d => d.parameters.length) = some 0 := by decide +kernel
def RT_X5_forgetAll (p : Program) (l : Launch) (e : Env) (s : State) (m : MethodId) (args : Array Value) (below : List Frame) (meth : Method) (c : Code) (Q : State → Prop) (A : Nat → Prop) (G : va_G) (cI cJ cZ cO : ClassId) (a_this : Nat) (u_cells_ : Value) (res : Int32 × Int32 × Int32 × Int32) : Prop := ∀ (o_clauses_ : Int32) (o_count_ : Int32) (o_lettersOfA_ : Int32) (o_lettersOfB_ : Int32), some (o_clauses_, o_count_, o_lettersOfA_, o_lettersOfB_) = some res → ∀ (H : Heap) (locs : List Loc) (ls : Array Slot) (pc : Nat), decode cX5_forgetAll pc = .ok (.return_, 1) → va_P G vwCl [(a_this, .inr (5, [u_cells_, .int o_clauses_, .int o_count_, .int o_lettersOfA_, .int o_lettersOfB_]))] H → va_D A [(a_this, .inr (5, [u_cells_, .int o_clauses_, .int o_count_, .int o_lettersOfA_, .int o_lettersOfB_]))] → va_S A s.heap H locs → W p l e ({ frames := 0, cells := 0, slots := 0, locals := 0 } : Room) s m args below meth c H locs 0 0 Q (F0 m pc ls [])
set_option maxHeartbeats 4000000 in
set_option maxRecDepth 100000 in
theorem w_X5_forgetAll_0 {p : Program} {l : Launch} {e : Env} {s : State} {m : MethodId} {args : Array Value} {below : List Frame} {meth : Method} {c : Code} {Q : State → Prop} {A : Nat → Prop} {G : va_G} {cI cJ cZ cO : ClassId} {tS : Nat} (a_this : Nat) (u_cells_ : Value) (hA : ∀ q : Nat, s.heap.size ≤ q → A q) (hK : va_K G vwCl (xTY cI cJ cZ cO) s) (hZ : xST tS A s) (M : CallFix p m c cX5_forgetAll 1 s args wsX5_forgetAll RX5) (res : Int32 × Int32 × Int32 × Int32) (hR : RT_X5_forgetAll p l e s m args below meth c Q A G cI cJ cZ cO a_this u_cells_ res) (clauses_ : Int32) (count_ : Int32) (lettersOfA_ : Int32) (lettersOfB_ : Int32)  (hf : f_X5_forgetAll = some res) {H : Heap} {locs : List Loc} {ls : Array Slot} (hP : va_P G vwCl [(a_this, .inr (5, [u_cells_, .int clauses_, .int count_, .int lettersOfA_, .int lettersOfB_]))] H) (hD : va_D A [(a_this, .inr (5, [u_cells_, .int clauses_, .int count_, .int lettersOfA_, .int lettersOfB_]))]) (hS : va_S A s.heap H locs) (hl : lv_has ls 1 [(0, .ref a_this)]) : W p l e ({ frames := 0, cells := 0, slots := 0, locals := 0 } : Room) s m args below meth c H locs 0 0 Q (F0 m 0 ls []) := by
  obtain ⟨hx, hb, hml, hown, hts⟩ := id M
  unfold f_X5_forgetAll at hf
  refine lv_aload_n hx hb dX5_forgetAll_0 rfl (lv_at hl 0 rfl) ?_
  refine lv_iconst (v := (0 : Int32)) hx hb dX5_forgetAll_1 (by decide) ?_
  refine xput M (C := RX5) (T := TX5) (N := 5) (ci := 5) (v := .int (0 : Int32)) uw_X5_forgetAll_X5 tyX5 tyX5_ok nmX5 hK hP hD hS 0 rfl rfl 1 (by decide) fl_X5_forgetAll_19 rfl rfl rfl rfl (Nat.le_of_ble_eq_true rfl) [(a_this, .inr (5, [u_cells_, .int (0 : Int32), .int count_, .int lettersOfA_, .int lettersOfB_]))] rfl dX5_forgetAll_2 (fun H locs hP hD hS => ?_)
  refine lv_aload_n hx hb dX5_forgetAll_5 rfl (lv_at hl 0 rfl) ?_
  refine lv_iconst (v := (0 : Int32)) hx hb dX5_forgetAll_6 (by decide) ?_
  refine xput M (C := RX5) (T := TX5) (N := 5) (ci := 5) (v := .int (0 : Int32)) uw_X5_forgetAll_X5 tyX5 tyX5_ok nmX5 hK hP hD hS 0 rfl rfl 2 (by decide) fl_X5_forgetAll_15 rfl rfl rfl rfl (Nat.le_of_ble_eq_true rfl) [(a_this, .inr (5, [u_cells_, .int (0 : Int32), .int (0 : Int32), .int lettersOfA_, .int lettersOfB_]))] rfl dX5_forgetAll_7 (fun H locs hP hD hS => ?_)
  refine lv_aload_n hx hb dX5_forgetAll_10 rfl (lv_at hl 0 rfl) ?_
  refine lv_iconst (v := (0 : Int32)) hx hb dX5_forgetAll_11 (by decide) ?_
  refine xput M (C := RX5) (T := TX5) (N := 5) (ci := 5) (v := .int (0 : Int32)) uw_X5_forgetAll_X5 tyX5 tyX5_ok nmX5 hK hP hD hS 0 rfl rfl 3 (by decide) fl_X5_forgetAll_22 rfl rfl rfl rfl (Nat.le_of_ble_eq_true rfl) [(a_this, .inr (5, [u_cells_, .int (0 : Int32), .int (0 : Int32), .int (0 : Int32), .int lettersOfB_]))] rfl dX5_forgetAll_12 (fun H locs hP hD hS => ?_)
  refine lv_aload_n hx hb dX5_forgetAll_15 rfl (lv_at hl 0 rfl) ?_
  refine lv_iconst (v := (0 : Int32)) hx hb dX5_forgetAll_16 (by decide) ?_
  refine xput M (C := RX5) (T := TX5) (N := 5) (ci := 5) (v := .int (0 : Int32)) uw_X5_forgetAll_X5 tyX5 tyX5_ok nmX5 hK hP hD hS 0 rfl rfl 4 (by decide) fl_X5_forgetAll_25 rfl rfl rfl rfl (Nat.le_of_ble_eq_true rfl) [(a_this, .inr (5, [u_cells_, .int (0 : Int32), .int (0 : Int32), .int (0 : Int32), .int (0 : Int32)]))] rfl dX5_forgetAll_17 (fun H locs hP hD hS => ?_)
  exact hR _ _ _ _ hf _ _ _ _ dX5_forgetAll_20 hP hD hS
set_option maxHeartbeats 4000000 in
set_option maxRecDepth 100000 in
theorem c_X5_forgetAll (l : Launch) (G : va_G) (cI cJ cZ cO : ClassId) (tS sz : Nat) (a_this : Nat) (u_cells_ : Value) (clauses_ : Int32) (count_ : Int32) (lettersOfA_ : Int32) (lettersOfB_ : Int32)  (o_clauses_ : Int32) (o_count_ : Int32) (o_lettersOfA_ : Int32) (o_lettersOfB_ : Int32) (hf : f_X5_forgetAll = some (o_clauses_, o_count_, o_lettersOfA_, o_lettersOfB_)) : Met l yX5_forgetAll wsX5_forgetAll ({ frames := 0, cells := 0, slots := 0, locals := 0 } : Room) (xPre G (xTY cI cJ cZ cO) tS [(a_this, .inr (5, [u_cells_, .int clauses_, .int count_, .int lettersOfA_, .int lettersOfB_]))] sz [.ref a_this]) (xQv G [(a_this, .inr (5, [u_cells_, .int clauses_, .int count_, .int lettersOfA_, .int lettersOfB_]))] sz (fun _ : Unit => [(a_this, .inr (5, [u_cells_, .int o_clauses_, .int o_count_, .int o_lettersOfA_, .int o_lettersOfB_]))])) 0 0 (va_A [(a_this, .inr (5, [u_cells_, .int clauses_, .int count_, .int lettersOfA_, .int lettersOfB_]))] sz) := by
  refine xMet (cc := cX5_forgetAll) (maxL := 1) (ret := none) (own := RX5) (by decide +kernel) rfl rfl (Nat.le_of_ble_eq_true rfl) rfl ?_
  intro p e s m below meth c ls M hr hlk hin hsz hA hK hZ hP hD hl
  refine w_X5_forgetAll_0 a_this u_cells_ hA hK hZ M (o_clauses_, o_count_, o_lettersOfA_, o_lettersOfB_) (fun o_clauses_' o_count_' o_lettersOfA_' o_lettersOfB_' hres H locs ls pc hd hP hD hS => ?_) clauses_ count_ lettersOfA_ lettersOfB_  hf hP hD va_S.rf hl
  cases hres
  exact xretv (W1 := fun _ : Unit => [(a_this, .inr (5, [u_cells_, .int o_clauses_, .int o_count_, .int o_lettersOfA_, .int o_lettersOfB_]))]) M hr hlk () hP hD hS hd
/-! BetweenBoth$Steps.copyFrom(LBetweenBoth$Steps;)V -/
theorem uw_X5_copyFrom_X5 : ∀ w ∈ u_ws RX5 TX5 5, w ∈ wsX5_copyFrom := by decide +kernel
theorem fl_X5_copyFrom_11 : Cond.fieldLink RX5 11 "BetweenBoth$Steps" (TX5 0).2.1 (TX5 0).2.2.1 ∈ wsX5_copyFrom := by decide +kernel
theorem fl_X5_copyFrom_15 : Cond.fieldLink RX5 15 "BetweenBoth$Steps" (TX5 2).2.1 (TX5 2).2.2.1 ∈ wsX5_copyFrom := by decide +kernel
theorem ac_X5_copyFrom_28 : Cond.methodLink RX5 28 arraycopyName ∈ wsX5_copyFrom ∧ Cond.native arraycopyName ∈ wsX5_copyFrom ∧ Cond.static arraycopyName ∈ wsX5_copyFrom ∧ Cond.initialized "java/lang/System" ∈ wsX5_copyFrom := by decide +kernel
theorem fl_X5_copyFrom_19 : Cond.fieldLink RX5 19 "BetweenBoth$Steps" (TX5 1).2.1 (TX5 1).2.2.1 ∈ wsX5_copyFrom := by decide +kernel
theorem fl_X5_copyFrom_22 : Cond.fieldLink RX5 22 "BetweenBoth$Steps" (TX5 3).2.1 (TX5 3).2.2.1 ∈ wsX5_copyFrom := by decide +kernel
theorem fl_X5_copyFrom_25 : Cond.fieldLink RX5 25 "BetweenBoth$Steps" (TX5 4).2.1 (TX5 4).2.2.1 ∈ wsX5_copyFrom := by decide +kernel
theorem hd_X5_copyFrom : yX5_copyFrom.cls = RX5 ∧ yX5_copyFrom.cls ≠ "java/lang/invoke/MethodHandle" ∧ yX5_copyFrom.cls ≠ "java/lang/invoke/VarHandle" ∧ (parseMethodDescriptor yX5_copyFrom.desc).map (fun d => d.parameters.length) = some 1 := by decide +kernel
def RT_X5_copyFrom (p : Program) (l : Launch) (e : Env) (s : State) (m : MethodId) (args : Array Value) (below : List Frame) (meth : Method) (c : Code) (Q : State → Prop) (A : Nat → Prop) (G : va_G) (cI cJ cZ cO : ClassId) (a_this : Nat) (a_cells : Nat) (a_p1 : Nat) (a_p1_cells : Nat) (p1_clauses_ : Int32) (p1_count_ : Int32) (p1_lettersOfA_ : Int32) (p1_lettersOfB_ : Int32) (p1_cells_ : (Nat → Int32)) (res : (Nat → Int32) × Int32 × Int32 × Int32 × Int32) : Prop := ∀ (o_cells_ : (Nat → Int32)) (o_clauses_ : Int32) (o_count_ : Int32) (o_lettersOfA_ : Int32) (o_lettersOfB_ : Int32), some (o_cells_, o_clauses_, o_count_, o_lettersOfA_, o_lettersOfB_) = some res → ∀ (H : Heap) (locs : List Loc) (ls : Array Slot) (pc : Nat), decode cX5_copyFrom pc = .ok (.return_, 1) → va_P G vwCl [(a_this, .inr (5, [.ref a_cells, .int o_clauses_, .int o_count_, .int o_lettersOfA_, .int o_lettersOfB_])), (a_cells, .inl (cI, 320, .inl o_cells_)), (a_p1, .inr (5, [.ref a_p1_cells, .int p1_clauses_, .int p1_count_, .int p1_lettersOfA_, .int p1_lettersOfB_])), (a_p1_cells, .inl (cI, 320, .inl p1_cells_))] H → va_D A [(a_this, .inr (5, [.ref a_cells, .int o_clauses_, .int o_count_, .int o_lettersOfA_, .int o_lettersOfB_])), (a_cells, .inl (cI, 320, .inl o_cells_)), (a_p1, .inr (5, [.ref a_p1_cells, .int p1_clauses_, .int p1_count_, .int p1_lettersOfA_, .int p1_lettersOfB_])), (a_p1_cells, .inl (cI, 320, .inl p1_cells_))] → va_S A s.heap H locs → W p l e ({ frames := 1, cells := 0, slots := 0, locals := 26 } : Room) s m args below meth c H locs 0 0 Q (F0 m pc ls [])
set_option maxHeartbeats 4000000 in
set_option maxRecDepth 100000 in
theorem w_X5_copyFrom_0 {p : Program} {l : Launch} {e : Env} {s : State} {m : MethodId} {args : Array Value} {below : List Frame} {meth : Method} {c : Code} {Q : State → Prop} {A : Nat → Prop} {G : va_G} {cI cJ cZ cO : ClassId} {tS : Nat} (a_this : Nat) (a_cells : Nat) (a_p1 : Nat) (a_p1_cells : Nat) (p1_clauses_ : Int32) (p1_count_ : Int32) (p1_lettersOfA_ : Int32) (p1_lettersOfB_ : Int32) (p1_cells_ : (Nat → Int32)) (hA : ∀ q : Nat, s.heap.size ≤ q → A q) (hK : va_K G vwCl (xTY cI cJ cZ cO) s) (hZ : xST tS A s) (M : CallFix p m c cX5_copyFrom 2 s args wsX5_copyFrom RX5) (res : (Nat → Int32) × Int32 × Int32 × Int32 × Int32) (hR : RT_X5_copyFrom p l e s m args below meth c Q A G cI cJ cZ cO a_this a_cells a_p1 a_p1_cells p1_clauses_ p1_count_ p1_lettersOfA_ p1_lettersOfB_ p1_cells_ res) (clauses_ : Int32) (count_ : Int32) (lettersOfA_ : Int32) (lettersOfB_ : Int32) (cells_ : (Nat → Int32))  (hf : f_X5_copyFrom cells_ p1_clauses_ p1_count_ p1_lettersOfA_ p1_lettersOfB_ p1_cells_ = some res) {H : Heap} {locs : List Loc} {ls : Array Slot} (hP : va_P G vwCl [(a_this, .inr (5, [.ref a_cells, .int clauses_, .int count_, .int lettersOfA_, .int lettersOfB_])), (a_cells, .inl (cI, 320, .inl cells_)), (a_p1, .inr (5, [.ref a_p1_cells, .int p1_clauses_, .int p1_count_, .int p1_lettersOfA_, .int p1_lettersOfB_])), (a_p1_cells, .inl (cI, 320, .inl p1_cells_))] H) (hD : va_D A [(a_this, .inr (5, [.ref a_cells, .int clauses_, .int count_, .int lettersOfA_, .int lettersOfB_])), (a_cells, .inl (cI, 320, .inl cells_)), (a_p1, .inr (5, [.ref a_p1_cells, .int p1_clauses_, .int p1_count_, .int p1_lettersOfA_, .int p1_lettersOfB_])), (a_p1_cells, .inl (cI, 320, .inl p1_cells_))]) (hS : va_S A s.heap H locs) (hl : lv_has ls 2 [(0, .ref a_this), (1, .ref a_p1)]) : W p l e ({ frames := 1, cells := 0, slots := 0, locals := 26 } : Room) s m args below meth c H locs 0 0 Q (F0 m 0 ls []) := by
  obtain ⟨hx, hb, hml, hown, hts⟩ := id M
  unfold f_X5_copyFrom at hf
  refine lv_aload_n hx hb dX5_copyFrom_0 rfl (lv_at hl 1 rfl) ?_
  refine xget M (C := RX5) (T := TX5) (N := 5) (ci := 5) (v := .ref a_p1_cells) uw_X5_copyFrom_X5 hK hP 2 rfl rfl 0 (by decide) fl_X5_copyFrom_11 rfl rfl dX5_copyFrom_1 ?_
  refine lv_iconst (v := (0 : Int32)) hx hb dX5_copyFrom_4 (by decide) ?_
  refine lv_aload_n hx hb dX5_copyFrom_5 rfl (lv_at hl 0 rfl) ?_
  refine xget M (C := RX5) (T := TX5) (N := 5) (ci := 5) (v := .ref a_cells) uw_X5_copyFrom_X5 hK hP 0 rfl rfl 0 (by decide) fl_X5_copyFrom_11 rfl rfl dX5_copyFrom_6 ?_
  refine lv_iconst (v := (0 : Int32)) hx hb dX5_copyFrom_9 (by decide) ?_
  refine lv_aload_n hx hb dX5_copyFrom_10 rfl (lv_at hl 1 rfl) ?_
  refine xget M (C := RX5) (T := TX5) (N := 5) (ci := 5) (v := .int p1_count_) uw_X5_copyFrom_X5 hK hP 2 rfl rfl 2 (by decide) fl_X5_copyFrom_15 rfl rfl dX5_copyFrom_11 ?_
  refine lv_bipush (v := (8 : Int32)) hx hb dX5_copyFrom_14 (by decide) ?_
  refine lv_imul hx hb dX5_copyFrom_16 ?_
  obtain ⟨cells_1, ecells_1, hc2, hf⟩ := oC_e hf
  refine xcopy M (hml.trans hl.1.symm) (hts _ ac_X5_copyFrom_28.1) (hts _ ac_X5_copyFrom_28.2.1) (hts _ ac_X5_copyFrom_28.2.2.1) (hts _ ac_X5_copyFrom_28.2.2.2) hK hP hD hS 3 1 rfl rfl hc2 ecells_1 (Nat.le_of_ble_eq_true rfl) (Nat.le_of_ble_eq_true rfl) [(a_this, .inr (5, [.ref a_cells, .int clauses_, .int count_, .int lettersOfA_, .int lettersOfB_])), (a_cells, .inl (cI, 320, .inl cells_1)), (a_p1, .inr (5, [.ref a_p1_cells, .int p1_clauses_, .int p1_count_, .int p1_lettersOfA_, .int p1_lettersOfB_])), (a_p1_cells, .inl (cI, 320, .inl p1_cells_))] rfl dX5_copyFrom_17 (fun H locs hP hD hS => ?_)
  refine lv_aload_n hx hb dX5_copyFrom_20 rfl (lv_at hl 0 rfl) ?_
  refine lv_aload_n hx hb dX5_copyFrom_21 rfl (lv_at hl 1 rfl) ?_
  refine xget M (C := RX5) (T := TX5) (N := 5) (ci := 5) (v := .int p1_clauses_) uw_X5_copyFrom_X5 hK hP 2 rfl rfl 1 (by decide) fl_X5_copyFrom_19 rfl rfl dX5_copyFrom_22 ?_
  refine xput M (C := RX5) (T := TX5) (N := 5) (ci := 5) (v := .int p1_clauses_) uw_X5_copyFrom_X5 tyX5 tyX5_ok nmX5 hK hP hD hS 0 rfl rfl 1 (by decide) fl_X5_copyFrom_19 rfl rfl rfl rfl (Nat.le_of_ble_eq_true rfl) [(a_this, .inr (5, [.ref a_cells, .int p1_clauses_, .int count_, .int lettersOfA_, .int lettersOfB_])), (a_cells, .inl (cI, 320, .inl cells_1)), (a_p1, .inr (5, [.ref a_p1_cells, .int p1_clauses_, .int p1_count_, .int p1_lettersOfA_, .int p1_lettersOfB_])), (a_p1_cells, .inl (cI, 320, .inl p1_cells_))] rfl dX5_copyFrom_25 (fun H locs hP hD hS => ?_)
  refine lv_aload_n hx hb dX5_copyFrom_28 rfl (lv_at hl 0 rfl) ?_
  refine lv_aload_n hx hb dX5_copyFrom_29 rfl (lv_at hl 1 rfl) ?_
  refine xget M (C := RX5) (T := TX5) (N := 5) (ci := 5) (v := .int p1_count_) uw_X5_copyFrom_X5 hK hP 2 rfl rfl 2 (by decide) fl_X5_copyFrom_15 rfl rfl dX5_copyFrom_30 ?_
  refine xput M (C := RX5) (T := TX5) (N := 5) (ci := 5) (v := .int p1_count_) uw_X5_copyFrom_X5 tyX5 tyX5_ok nmX5 hK hP hD hS 0 rfl rfl 2 (by decide) fl_X5_copyFrom_15 rfl rfl rfl rfl (Nat.le_of_ble_eq_true rfl) [(a_this, .inr (5, [.ref a_cells, .int p1_clauses_, .int p1_count_, .int lettersOfA_, .int lettersOfB_])), (a_cells, .inl (cI, 320, .inl cells_1)), (a_p1, .inr (5, [.ref a_p1_cells, .int p1_clauses_, .int p1_count_, .int p1_lettersOfA_, .int p1_lettersOfB_])), (a_p1_cells, .inl (cI, 320, .inl p1_cells_))] rfl dX5_copyFrom_33 (fun H locs hP hD hS => ?_)
  refine lv_aload_n hx hb dX5_copyFrom_36 rfl (lv_at hl 0 rfl) ?_
  refine lv_aload_n hx hb dX5_copyFrom_37 rfl (lv_at hl 1 rfl) ?_
  refine xget M (C := RX5) (T := TX5) (N := 5) (ci := 5) (v := .int p1_lettersOfA_) uw_X5_copyFrom_X5 hK hP 2 rfl rfl 3 (by decide) fl_X5_copyFrom_22 rfl rfl dX5_copyFrom_38 ?_
  refine xput M (C := RX5) (T := TX5) (N := 5) (ci := 5) (v := .int p1_lettersOfA_) uw_X5_copyFrom_X5 tyX5 tyX5_ok nmX5 hK hP hD hS 0 rfl rfl 3 (by decide) fl_X5_copyFrom_22 rfl rfl rfl rfl (Nat.le_of_ble_eq_true rfl) [(a_this, .inr (5, [.ref a_cells, .int p1_clauses_, .int p1_count_, .int p1_lettersOfA_, .int lettersOfB_])), (a_cells, .inl (cI, 320, .inl cells_1)), (a_p1, .inr (5, [.ref a_p1_cells, .int p1_clauses_, .int p1_count_, .int p1_lettersOfA_, .int p1_lettersOfB_])), (a_p1_cells, .inl (cI, 320, .inl p1_cells_))] rfl dX5_copyFrom_41 (fun H locs hP hD hS => ?_)
  refine lv_aload_n hx hb dX5_copyFrom_44 rfl (lv_at hl 0 rfl) ?_
  refine lv_aload_n hx hb dX5_copyFrom_45 rfl (lv_at hl 1 rfl) ?_
  refine xget M (C := RX5) (T := TX5) (N := 5) (ci := 5) (v := .int p1_lettersOfB_) uw_X5_copyFrom_X5 hK hP 2 rfl rfl 4 (by decide) fl_X5_copyFrom_25 rfl rfl dX5_copyFrom_46 ?_
  refine xput M (C := RX5) (T := TX5) (N := 5) (ci := 5) (v := .int p1_lettersOfB_) uw_X5_copyFrom_X5 tyX5 tyX5_ok nmX5 hK hP hD hS 0 rfl rfl 4 (by decide) fl_X5_copyFrom_25 rfl rfl rfl rfl (Nat.le_of_ble_eq_true rfl) [(a_this, .inr (5, [.ref a_cells, .int p1_clauses_, .int p1_count_, .int p1_lettersOfA_, .int p1_lettersOfB_])), (a_cells, .inl (cI, 320, .inl cells_1)), (a_p1, .inr (5, [.ref a_p1_cells, .int p1_clauses_, .int p1_count_, .int p1_lettersOfA_, .int p1_lettersOfB_])), (a_p1_cells, .inl (cI, 320, .inl p1_cells_))] rfl dX5_copyFrom_49 (fun H locs hP hD hS => ?_)
  exact hR _ _ _ _ _ hf _ _ _ _ dX5_copyFrom_52 hP hD hS
set_option maxHeartbeats 4000000 in
set_option maxRecDepth 100000 in
theorem c_X5_copyFrom (l : Launch) (G : va_G) (cI cJ cZ cO : ClassId) (tS sz : Nat) (a_this : Nat) (a_cells : Nat) (a_p1 : Nat) (a_p1_cells : Nat) (p1_clauses_ : Int32) (p1_count_ : Int32) (p1_lettersOfA_ : Int32) (p1_lettersOfB_ : Int32) (p1_cells_ : (Nat → Int32)) (clauses_ : Int32) (count_ : Int32) (lettersOfA_ : Int32) (lettersOfB_ : Int32) (cells_ : (Nat → Int32))  (o_cells_ : (Nat → Int32)) (o_clauses_ : Int32) (o_count_ : Int32) (o_lettersOfA_ : Int32) (o_lettersOfB_ : Int32) (hf : f_X5_copyFrom cells_ p1_clauses_ p1_count_ p1_lettersOfA_ p1_lettersOfB_ p1_cells_ = some (o_cells_, o_clauses_, o_count_, o_lettersOfA_, o_lettersOfB_)) : Met l yX5_copyFrom wsX5_copyFrom ({ frames := 1, cells := 0, slots := 0, locals := 26 } : Room) (xPre G (xTY cI cJ cZ cO) tS [(a_this, .inr (5, [.ref a_cells, .int clauses_, .int count_, .int lettersOfA_, .int lettersOfB_])), (a_cells, .inl (cI, 320, .inl cells_)), (a_p1, .inr (5, [.ref a_p1_cells, .int p1_clauses_, .int p1_count_, .int p1_lettersOfA_, .int p1_lettersOfB_])), (a_p1_cells, .inl (cI, 320, .inl p1_cells_))] sz [.ref a_this, .ref a_p1]) (xQv G [(a_this, .inr (5, [.ref a_cells, .int clauses_, .int count_, .int lettersOfA_, .int lettersOfB_])), (a_cells, .inl (cI, 320, .inl cells_)), (a_p1, .inr (5, [.ref a_p1_cells, .int p1_clauses_, .int p1_count_, .int p1_lettersOfA_, .int p1_lettersOfB_])), (a_p1_cells, .inl (cI, 320, .inl p1_cells_))] sz (fun _ : Unit => [(a_this, .inr (5, [.ref a_cells, .int o_clauses_, .int o_count_, .int o_lettersOfA_, .int o_lettersOfB_])), (a_cells, .inl (cI, 320, .inl o_cells_)), (a_p1, .inr (5, [.ref a_p1_cells, .int p1_clauses_, .int p1_count_, .int p1_lettersOfA_, .int p1_lettersOfB_])), (a_p1_cells, .inl (cI, 320, .inl p1_cells_))])) 0 0 (va_A [(a_this, .inr (5, [.ref a_cells, .int clauses_, .int count_, .int lettersOfA_, .int lettersOfB_])), (a_cells, .inl (cI, 320, .inl cells_)), (a_p1, .inr (5, [.ref a_p1_cells, .int p1_clauses_, .int p1_count_, .int p1_lettersOfA_, .int p1_lettersOfB_])), (a_p1_cells, .inl (cI, 320, .inl p1_cells_))] sz) := by
  refine xMet (cc := cX5_copyFrom) (maxL := 2) (ret := none) (own := RX5) (by decide +kernel) rfl rfl (Nat.le_of_ble_eq_true rfl) rfl ?_
  intro p e s m below meth c ls M hr hlk hin hsz hA hK hZ hP hD hl
  refine w_X5_copyFrom_0 a_this a_cells a_p1 a_p1_cells p1_clauses_ p1_count_ p1_lettersOfA_ p1_lettersOfB_ p1_cells_ hA hK hZ M (o_cells_, o_clauses_, o_count_, o_lettersOfA_, o_lettersOfB_) (fun o_cells_' o_clauses_' o_count_' o_lettersOfA_' o_lettersOfB_' hres H locs ls pc hd hP hD hS => ?_) clauses_ count_ lettersOfA_ lettersOfB_ cells_  hf hP hD va_S.rf hl
  cases hres
  exact xretv (W1 := fun _ : Unit => [(a_this, .inr (5, [.ref a_cells, .int o_clauses_, .int o_count_, .int o_lettersOfA_, .int o_lettersOfB_])), (a_cells, .inl (cI, 320, .inl o_cells_)), (a_p1, .inr (5, [.ref a_p1_cells, .int p1_clauses_, .int p1_count_, .int p1_lettersOfA_, .int p1_lettersOfB_])), (a_p1_cells, .inl (cI, 320, .inl p1_cells_))]) M hr hlk () hP hD hS hd
/-! BetweenBoth$Steps.addClause(III)V -/
theorem uw_X5_addClause_X5 : ∀ w ∈ u_ws RX5 TX5 5, w ∈ wsX5_addClause := by decide +kernel
theorem fl_X5_addClause_19 : Cond.fieldLink RX5 19 "BetweenBoth$Steps" (TX5 1).2.1 (TX5 1).2.2.1 ∈ wsX5_addClause := by decide +kernel
theorem fl_X5_addClause_15 : Cond.fieldLink RX5 15 "BetweenBoth$Steps" (TX5 2).2.1 (TX5 2).2.2.1 ∈ wsX5_addClause := by decide +kernel
theorem fl_X5_addClause_11 : Cond.fieldLink RX5 11 "BetweenBoth$Steps" (TX5 0).2.1 (TX5 0).2.2.1 ∈ wsX5_addClause := by decide +kernel
theorem fl_X5_addClause_25 : Cond.fieldLink RX5 25 "BetweenBoth$Steps" (TX5 4).2.1 (TX5 4).2.2.1 ∈ wsX5_addClause := by decide +kernel
theorem fl_X5_addClause_22 : Cond.fieldLink RX5 22 "BetweenBoth$Steps" (TX5 3).2.1 (TX5 3).2.2.1 ∈ wsX5_addClause := by decide +kernel
theorem hd_X5_addClause : yX5_addClause.cls = RX5 ∧ yX5_addClause.cls ≠ "java/lang/invoke/MethodHandle" ∧ yX5_addClause.cls ≠ "java/lang/invoke/VarHandle" ∧ (parseMethodDescriptor yX5_addClause.desc).map (fun d => d.parameters.length) = some 3 := by decide +kernel
def RT_X5_addClause (p : Program) (l : Launch) (e : Env) (s : State) (m : MethodId) (args : Array Value) (below : List Frame) (meth : Method) (c : Code) (Q : State → Prop) (A : Nat → Prop) (G : va_G) (cI cJ cZ cO : ClassId) (a_this : Nat) (a_cells : Nat) (res : (Nat → Int32) × Int32 × Int32 × Int32 × Int32) : Prop := ∀ (o_cells_ : (Nat → Int32)) (o_clauses_ : Int32) (o_count_ : Int32) (o_lettersOfA_ : Int32) (o_lettersOfB_ : Int32), some (o_cells_, o_clauses_, o_count_, o_lettersOfA_, o_lettersOfB_) = some res → ∀ (H : Heap) (locs : List Loc) (ls : Array Slot) (pc : Nat), decode cX5_addClause pc = .ok (.return_, 1) → va_P G vwCl [(a_this, .inr (5, [.ref a_cells, .int o_clauses_, .int o_count_, .int o_lettersOfA_, .int o_lettersOfB_])), (a_cells, .inl (cI, 320, .inl o_cells_))] H → va_D A [(a_this, .inr (5, [.ref a_cells, .int o_clauses_, .int o_count_, .int o_lettersOfA_, .int o_lettersOfB_])), (a_cells, .inl (cI, 320, .inl o_cells_))] → va_S A s.heap H locs → W p l e ({ frames := 0, cells := 0, slots := 0, locals := 0 } : Room) s m args below meth c H locs 0 0 Q (F0 m pc ls [])
set_option maxHeartbeats 4000000 in
set_option maxRecDepth 100000 in
theorem w_X5_addClause_127 {p : Program} {l : Launch} {e : Env} {s : State} {m : MethodId} {args : Array Value} {below : List Frame} {meth : Method} {c : Code} {Q : State → Prop} {A : Nat → Prop} {G : va_G} {cI cJ cZ cO : ClassId} {tS : Nat} (a_this : Nat) (a_cells : Nat) (hA : ∀ q : Nat, s.heap.size ≤ q → A q) (hK : va_K G vwCl (xTY cI cJ cZ cO) s) (hZ : xST tS A s) (M : CallFix p m c cX5_addClause 5 s args wsX5_addClause RX5) (res : (Nat → Int32) × Int32 × Int32 × Int32 × Int32) (hR : RT_X5_addClause p l e s m args below meth c Q A G cI cJ cZ cO a_this a_cells res) (clauses_ : Int32) (count_ : Int32) (lettersOfA_ : Int32) (lettersOfB_ : Int32) (cells_ : (Nat → Int32))  (hf : f_X5_addClause_127 clauses_ count_ lettersOfA_ lettersOfB_ cells_ = some res) {H : Heap} {locs : List Loc} {ls : Array Slot} (hP : va_P G vwCl [(a_this, .inr (5, [.ref a_cells, .int clauses_, .int count_, .int lettersOfA_, .int lettersOfB_])), (a_cells, .inl (cI, 320, .inl cells_))] H) (hD : va_D A [(a_this, .inr (5, [.ref a_cells, .int clauses_, .int count_, .int lettersOfA_, .int lettersOfB_])), (a_cells, .inl (cI, 320, .inl cells_))]) (hS : va_S A s.heap H locs) (hl : lv_has ls 5 [(0, .ref a_this)]) : W p l e ({ frames := 0, cells := 0, slots := 0, locals := 0 } : Room) s m args below meth c H locs 0 0 Q (F0 m 127 ls []) := by
  obtain ⟨hx, hb, hml, hown, hts⟩ := id M
  unfold f_X5_addClause_127 at hf
  refine lv_aload_n hx hb dX5_addClause_127 rfl (lv_at hl 0 rfl) ?_
  refine lv_dup hx hb dX5_addClause_128 rfl ?_
  refine xget M (C := RX5) (T := TX5) (N := 5) (ci := 5) (v := .int clauses_) uw_X5_addClause_X5 hK hP 0 rfl rfl 1 (by decide) fl_X5_addClause_19 rfl rfl dX5_addClause_129 ?_
  refine lv_iconst (v := (1 : Int32)) hx hb dX5_addClause_132 (by decide) ?_
  refine lv_iadd hx hb dX5_addClause_133 ?_
  obtain ⟨clauses_1, eclauses_1, hf⟩ := oL_e hf
  refine xtopi eclauses_1 ?_
  refine xput M (C := RX5) (T := TX5) (N := 5) (ci := 5) (v := .int clauses_1) uw_X5_addClause_X5 tyX5 tyX5_ok nmX5 hK hP hD hS 0 rfl rfl 1 (by decide) fl_X5_addClause_19 rfl rfl rfl rfl (Nat.le_of_ble_eq_true rfl) [(a_this, .inr (5, [.ref a_cells, .int clauses_1, .int count_, .int lettersOfA_, .int lettersOfB_])), (a_cells, .inl (cI, 320, .inl cells_))] rfl dX5_addClause_134 (fun H locs hP hD hS => ?_)
  refine lv_aload_n hx hb dX5_addClause_137 rfl (lv_at hl 0 rfl) ?_
  refine lv_dup hx hb dX5_addClause_138 rfl ?_
  refine xget M (C := RX5) (T := TX5) (N := 5) (ci := 5) (v := .int count_) uw_X5_addClause_X5 hK hP 0 rfl rfl 2 (by decide) fl_X5_addClause_15 rfl rfl dX5_addClause_139 ?_
  refine lv_iconst (v := (1 : Int32)) hx hb dX5_addClause_142 (by decide) ?_
  refine lv_iadd hx hb dX5_addClause_143 ?_
  obtain ⟨count_2, ecount_2, hf⟩ := oL_e hf
  refine xtopi ecount_2 ?_
  refine xput M (C := RX5) (T := TX5) (N := 5) (ci := 5) (v := .int count_2) uw_X5_addClause_X5 tyX5 tyX5_ok nmX5 hK hP hD hS 0 rfl rfl 2 (by decide) fl_X5_addClause_15 rfl rfl rfl rfl (Nat.le_of_ble_eq_true rfl) [(a_this, .inr (5, [.ref a_cells, .int clauses_1, .int count_2, .int lettersOfA_, .int lettersOfB_])), (a_cells, .inl (cI, 320, .inl cells_))] rfl dX5_addClause_144 (fun H locs hP hD hS => ?_)
  exact hR _ _ _ _ _ hf _ _ _ _ dX5_addClause_147 hP hD hS
set_option maxHeartbeats 4000000 in
set_option maxRecDepth 100000 in
theorem w_X5_addClause_0 {p : Program} {l : Launch} {e : Env} {s : State} {m : MethodId} {args : Array Value} {below : List Frame} {meth : Method} {c : Code} {Q : State → Prop} {A : Nat → Prop} {G : va_G} {cI cJ cZ cO : ClassId} {tS : Nat} (a_this : Nat) (a_cells : Nat) (hA : ∀ q : Nat, s.heap.size ≤ q → A q) (hK : va_K G vwCl (xTY cI cJ cZ cO) s) (hZ : xST tS A s) (M : CallFix p m c cX5_addClause 5 s args wsX5_addClause RX5) (res : (Nat → Int32) × Int32 × Int32 × Int32 × Int32) (hR : RT_X5_addClause p l e s m args below meth c Q A G cI cJ cZ cO a_this a_cells res) (clauses_ : Int32) (count_ : Int32) (lettersOfA_ : Int32) (lettersOfB_ : Int32) (cells_ : (Nat → Int32)) (x1_ : Int32) (x2_ : Int32) (x3_ : Int32) (hf : f_X5_addClause clauses_ count_ lettersOfA_ lettersOfB_ cells_ x1_ x2_ x3_ = some res) {H : Heap} {locs : List Loc} {ls : Array Slot} (hP : va_P G vwCl [(a_this, .inr (5, [.ref a_cells, .int clauses_, .int count_, .int lettersOfA_, .int lettersOfB_])), (a_cells, .inl (cI, 320, .inl cells_))] H) (hD : va_D A [(a_this, .inr (5, [.ref a_cells, .int clauses_, .int count_, .int lettersOfA_, .int lettersOfB_])), (a_cells, .inl (cI, 320, .inl cells_))]) (hS : va_S A s.heap H locs) (hl : lv_has ls 5 [(0, .ref a_this), (1, .int x1_), (2, .int x2_), (3, .int x3_)]) : W p l e ({ frames := 0, cells := 0, slots := 0, locals := 0 } : Room) s m args below meth c H locs 0 0 Q (F0 m 0 ls []) := by
  obtain ⟨hx, hb, hml, hown, hts⟩ := id M
  unfold f_X5_addClause at hf
  refine lv_aload_n hx hb dX5_addClause_0 rfl (lv_at hl 0 rfl) ?_
  refine xget M (C := RX5) (T := TX5) (N := 5) (ci := 5) (v := .int count_) uw_X5_addClause_X5 hK hP 0 rfl rfl 2 (by decide) fl_X5_addClause_15 rfl rfl dX5_addClause_1 ?_
  refine lv_bipush (v := (8 : Int32)) hx hb dX5_addClause_4 (by decide) ?_
  refine lv_imul hx hb dX5_addClause_6 ?_
  obtain ⟨x4_1, ex4_1, hf⟩ := oL_e hf
  refine xtopi ex4_1 ?_
  refine lv_istore (lv' := [(4, .int x4_1), (0, .ref a_this), (1, .int x1_), (2, .int x2_), (3, .int x3_)]) hx hb dX5_addClause_7 hl (by decide) rfl (fun ls hl => ?_)
  refine lv_aload_n hx hb dX5_addClause_9 rfl (lv_at hl 1 rfl) ?_
  refine xget M (C := RX5) (T := TX5) (N := 5) (ci := 5) (v := .ref a_cells) uw_X5_addClause_X5 hK hP 0 rfl rfl 0 (by decide) fl_X5_addClause_11 rfl rfl dX5_addClause_10 ?_
  refine lv_iload hx hb dX5_addClause_13 (lv_at hl 0 rfl) ?_
  refine lv_iconst (v := (0 : Int32)) hx hb dX5_addClause_15 (by decide) ?_
  refine lv_iadd hx hb dX5_addClause_16 ?_
  refine lv_iload_n hx hb dX5_addClause_17 rfl (lv_at hl 3 rfl) ?_
  obtain ⟨j2, hj2, hij2, hf⟩ := oA_e hf
  obtain ⟨cells_3, ecells_3, hf⟩ := oL_e hf
  refine xiast M hK hP hD hS 1 0 rfl rfl hj2 hij2 ecells_3 [(a_this, .inr (5, [.ref a_cells, .int clauses_, .int count_, .int lettersOfA_, .int lettersOfB_])), (a_cells, .inl (cI, 320, .inl cells_3))] rfl dX5_addClause_18 (fun H locs hP hD hS => ?_)
  refine lv_aload_n hx hb dX5_addClause_19 rfl (lv_at hl 1 rfl) ?_
  refine xget M (C := RX5) (T := TX5) (N := 5) (ci := 5) (v := .ref a_cells) uw_X5_addClause_X5 hK hP 0 rfl rfl 0 (by decide) fl_X5_addClause_11 rfl rfl dX5_addClause_20 ?_
  refine lv_iload hx hb dX5_addClause_23 (lv_at hl 0 rfl) ?_
  refine lv_iconst (v := (1 : Int32)) hx hb dX5_addClause_25 (by decide) ?_
  refine lv_iadd hx hb dX5_addClause_26 ?_
  refine lv_iload_n hx hb dX5_addClause_27 rfl (lv_at hl 4 rfl) ?_
  obtain ⟨j4, hj4, hij4, hf⟩ := oA_e hf
  obtain ⟨cells_5, ecells_5, hf⟩ := oL_e hf
  refine xiast M hK hP hD hS 1 0 rfl rfl hj4 hij4 ecells_5 [(a_this, .inr (5, [.ref a_cells, .int clauses_, .int count_, .int lettersOfA_, .int lettersOfB_])), (a_cells, .inl (cI, 320, .inl cells_5))] rfl dX5_addClause_28 (fun H locs hP hD hS => ?_)
  refine lv_aload_n hx hb dX5_addClause_29 rfl (lv_at hl 1 rfl) ?_
  refine xget M (C := RX5) (T := TX5) (N := 5) (ci := 5) (v := .ref a_cells) uw_X5_addClause_X5 hK hP 0 rfl rfl 0 (by decide) fl_X5_addClause_11 rfl rfl dX5_addClause_30 ?_
  refine lv_iload hx hb dX5_addClause_33 (lv_at hl 0 rfl) ?_
  refine lv_iconst (v := (2 : Int32)) hx hb dX5_addClause_35 (by decide) ?_
  refine lv_iadd hx hb dX5_addClause_36 ?_
  refine lv_iload_n hx hb dX5_addClause_37 rfl (lv_at hl 2 rfl) ?_
  obtain ⟨j6, hj6, hij6, hf⟩ := oA_e hf
  obtain ⟨cells_7, ecells_7, hf⟩ := oL_e hf
  refine xiast M hK hP hD hS 1 0 rfl rfl hj6 hij6 ecells_7 [(a_this, .inr (5, [.ref a_cells, .int clauses_, .int count_, .int lettersOfA_, .int lettersOfB_])), (a_cells, .inl (cI, 320, .inl cells_7))] rfl dX5_addClause_38 (fun H locs hP hD hS => ?_)
  refine lv_aload_n hx hb dX5_addClause_39 rfl (lv_at hl 1 rfl) ?_
  refine xget M (C := RX5) (T := TX5) (N := 5) (ci := 5) (v := .ref a_cells) uw_X5_addClause_X5 hK hP 0 rfl rfl 0 (by decide) fl_X5_addClause_11 rfl rfl dX5_addClause_40 ?_
  refine lv_iload hx hb dX5_addClause_43 (lv_at hl 0 rfl) ?_
  refine lv_iconst (v := (3 : Int32)) hx hb dX5_addClause_45 (by decide) ?_
  refine lv_iadd hx hb dX5_addClause_46 ?_
  refine lv_iconst (v := (-1 : Int32)) hx hb dX5_addClause_47 (by decide) ?_
  obtain ⟨j8, hj8, hij8, hf⟩ := oA_e hf
  obtain ⟨cells_9, ecells_9, hf⟩ := oL_e hf
  refine xiast M hK hP hD hS 1 0 rfl rfl hj8 hij8 ecells_9 [(a_this, .inr (5, [.ref a_cells, .int clauses_, .int count_, .int lettersOfA_, .int lettersOfB_])), (a_cells, .inl (cI, 320, .inl cells_9))] rfl dX5_addClause_48 (fun H locs hP hD hS => ?_)
  refine lv_aload_n hx hb dX5_addClause_49 rfl (lv_at hl 1 rfl) ?_
  refine xget M (C := RX5) (T := TX5) (N := 5) (ci := 5) (v := .ref a_cells) uw_X5_addClause_X5 hK hP 0 rfl rfl 0 (by decide) fl_X5_addClause_11 rfl rfl dX5_addClause_50 ?_
  refine lv_iload hx hb dX5_addClause_53 (lv_at hl 0 rfl) ?_
  refine lv_iconst (v := (4 : Int32)) hx hb dX5_addClause_55 (by decide) ?_
  refine lv_iadd hx hb dX5_addClause_56 ?_
  refine lv_iconst (v := (-1 : Int32)) hx hb dX5_addClause_57 (by decide) ?_
  obtain ⟨j10, hj10, hij10, hf⟩ := oA_e hf
  obtain ⟨cells_11, ecells_11, hf⟩ := oL_e hf
  refine xiast M hK hP hD hS 1 0 rfl rfl hj10 hij10 ecells_11 [(a_this, .inr (5, [.ref a_cells, .int clauses_, .int count_, .int lettersOfA_, .int lettersOfB_])), (a_cells, .inl (cI, 320, .inl cells_11))] rfl dX5_addClause_58 (fun H locs hP hD hS => ?_)
  refine lv_aload_n hx hb dX5_addClause_59 rfl (lv_at hl 1 rfl) ?_
  refine xget M (C := RX5) (T := TX5) (N := 5) (ci := 5) (v := .ref a_cells) uw_X5_addClause_X5 hK hP 0 rfl rfl 0 (by decide) fl_X5_addClause_11 rfl rfl dX5_addClause_60 ?_
  refine lv_iload hx hb dX5_addClause_63 (lv_at hl 0 rfl) ?_
  refine lv_iconst (v := (5 : Int32)) hx hb dX5_addClause_65 (by decide) ?_
  refine lv_iadd hx hb dX5_addClause_66 ?_
  refine lv_iconst (v := (-1 : Int32)) hx hb dX5_addClause_67 (by decide) ?_
  obtain ⟨j12, hj12, hij12, hf⟩ := oA_e hf
  obtain ⟨cells_13, ecells_13, hf⟩ := oL_e hf
  refine xiast M hK hP hD hS 1 0 rfl rfl hj12 hij12 ecells_13 [(a_this, .inr (5, [.ref a_cells, .int clauses_, .int count_, .int lettersOfA_, .int lettersOfB_])), (a_cells, .inl (cI, 320, .inl cells_13))] rfl dX5_addClause_68 (fun H locs hP hD hS => ?_)
  refine lv_aload_n hx hb dX5_addClause_69 rfl (lv_at hl 1 rfl) ?_
  refine xget M (C := RX5) (T := TX5) (N := 5) (ci := 5) (v := .ref a_cells) uw_X5_addClause_X5 hK hP 0 rfl rfl 0 (by decide) fl_X5_addClause_11 rfl rfl dX5_addClause_70 ?_
  refine lv_iload hx hb dX5_addClause_73 (lv_at hl 0 rfl) ?_
  refine lv_bipush (v := (6 : Int32)) hx hb dX5_addClause_75 (by decide) ?_
  refine lv_iadd hx hb dX5_addClause_77 ?_
  refine lv_iconst (v := (1 : Int32)) hx hb dX5_addClause_78 (by decide) ?_
  refine lv_aload_n hx hb dX5_addClause_79 rfl (lv_at hl 1 rfl) ?_
  refine xget M (C := RX5) (T := TX5) (N := 5) (ci := 5) (v := .int count_) uw_X5_addClause_X5 hK hP 0 rfl rfl 2 (by decide) fl_X5_addClause_15 rfl rfl dX5_addClause_80 ?_
  refine lv_ishl hx hb dX5_addClause_83 ?_
  obtain ⟨j14, hj14, hij14, hf⟩ := oA_e hf
  obtain ⟨cells_15, ecells_15, hf⟩ := oL_e hf
  refine xiast M hK hP hD hS 1 0 rfl rfl hj14 hij14 ecells_15 [(a_this, .inr (5, [.ref a_cells, .int clauses_, .int count_, .int lettersOfA_, .int lettersOfB_])), (a_cells, .inl (cI, 320, .inl cells_15))] rfl dX5_addClause_84 (fun H locs hP hD hS => ?_)
  refine lv_aload_n hx hb dX5_addClause_85 rfl (lv_at hl 1 rfl) ?_
  refine xget M (C := RX5) (T := TX5) (N := 5) (ci := 5) (v := .ref a_cells) uw_X5_addClause_X5 hK hP 0 rfl rfl 0 (by decide) fl_X5_addClause_11 rfl rfl dX5_addClause_86 ?_
  refine lv_iload hx hb dX5_addClause_89 (lv_at hl 0 rfl) ?_
  refine lv_bipush (v := (7 : Int32)) hx hb dX5_addClause_91 (by decide) ?_
  refine lv_iadd hx hb dX5_addClause_93 ?_
  refine lv_iconst (v := (1 : Int32)) hx hb dX5_addClause_94 (by decide) ?_
  obtain ⟨j16, hj16, hij16, hf⟩ := oA_e hf
  obtain ⟨cells_17, ecells_17, hf⟩ := oL_e hf
  refine xiast M hK hP hD hS 1 0 rfl rfl hj16 hij16 ecells_17 [(a_this, .inr (5, [.ref a_cells, .int clauses_, .int count_, .int lettersOfA_, .int lettersOfB_])), (a_cells, .inl (cI, 320, .inl cells_17))] rfl dX5_addClause_95 (fun H locs hP hD hS => ?_)
  refine lv_iload_n hx hb dX5_addClause_96 rfl (lv_at hl 2 rfl) ?_
  refine lv_if_ne (tgt := 115) hx hb dX5_addClause_97 (by decide) (fun hc18 => ?_) (fun hc18 => ?_)
  · have hf := oI_f hc18 hf
    refine lv_aload_n hx hb dX5_addClause_115 rfl (lv_at hl 1 rfl) ?_
    refine lv_dup hx hb dX5_addClause_116 rfl ?_
    refine xget M (C := RX5) (T := TX5) (N := 5) (ci := 5) (v := .int lettersOfB_) uw_X5_addClause_X5 hK hP 0 rfl rfl 4 (by decide) fl_X5_addClause_25 rfl rfl dX5_addClause_117 ?_
    refine lv_iload_n hx hb dX5_addClause_120 rfl (lv_at hl 3 rfl) ?_
    refine lv_iload_n hx hb dX5_addClause_121 rfl (lv_at hl 4 rfl) ?_
    refine lv_ior hx hb dX5_addClause_122 ?_
    refine lv_ior hx hb dX5_addClause_123 ?_
    obtain ⟨lettersOfB_19, elettersOfB_19, hf⟩ := oL_e hf
    refine xtopi elettersOfB_19 ?_
    refine xput M (C := RX5) (T := TX5) (N := 5) (ci := 5) (v := .int lettersOfB_19) uw_X5_addClause_X5 tyX5 tyX5_ok nmX5 hK hP hD hS 0 rfl rfl 4 (by decide) fl_X5_addClause_25 rfl rfl rfl rfl (Nat.le_of_ble_eq_true rfl) [(a_this, .inr (5, [.ref a_cells, .int clauses_, .int count_, .int lettersOfA_, .int lettersOfB_19])), (a_cells, .inl (cI, 320, .inl cells_17))] rfl dX5_addClause_124 (fun H locs hP hD hS => ?_)
    exact w_X5_addClause_127 a_this a_cells hA hK hZ M res hR clauses_ count_ lettersOfA_ lettersOfB_19 cells_17  hf hP hD hS (lv_sub hl [1] rfl)
  · have hf := oI_t hc18 hf
    refine lv_aload_n hx hb dX5_addClause_100 rfl (lv_at hl 1 rfl) ?_
    refine lv_dup hx hb dX5_addClause_101 rfl ?_
    refine xget M (C := RX5) (T := TX5) (N := 5) (ci := 5) (v := .int lettersOfA_) uw_X5_addClause_X5 hK hP 0 rfl rfl 3 (by decide) fl_X5_addClause_22 rfl rfl dX5_addClause_102 ?_
    refine lv_iload_n hx hb dX5_addClause_105 rfl (lv_at hl 3 rfl) ?_
    refine lv_iload_n hx hb dX5_addClause_106 rfl (lv_at hl 4 rfl) ?_
    refine lv_ior hx hb dX5_addClause_107 ?_
    refine lv_ior hx hb dX5_addClause_108 ?_
    obtain ⟨lettersOfA_20, elettersOfA_20, hf⟩ := oL_e hf
    refine xtopi elettersOfA_20 ?_
    refine xput M (C := RX5) (T := TX5) (N := 5) (ci := 5) (v := .int lettersOfA_20) uw_X5_addClause_X5 tyX5 tyX5_ok nmX5 hK hP hD hS 0 rfl rfl 3 (by decide) fl_X5_addClause_22 rfl rfl rfl rfl (Nat.le_of_ble_eq_true rfl) [(a_this, .inr (5, [.ref a_cells, .int clauses_, .int count_, .int lettersOfA_20, .int lettersOfB_])), (a_cells, .inl (cI, 320, .inl cells_17))] rfl dX5_addClause_109 (fun H locs hP hD hS => ?_)
    refine lv_goto (tgt := 127) hx hb dX5_addClause_112 (by decide) ?_
    exact w_X5_addClause_127 a_this a_cells hA hK hZ M res hR clauses_ count_ lettersOfA_20 lettersOfB_ cells_17  hf hP hD hS (lv_sub hl [1] rfl)
set_option maxHeartbeats 4000000 in
set_option maxRecDepth 100000 in
theorem c_X5_addClause (l : Launch) (G : va_G) (cI cJ cZ cO : ClassId) (tS sz : Nat) (a_this : Nat) (a_cells : Nat) (clauses_ : Int32) (count_ : Int32) (lettersOfA_ : Int32) (lettersOfB_ : Int32) (cells_ : (Nat → Int32)) (x1_ : Int32) (x2_ : Int32) (x3_ : Int32) (o_cells_ : (Nat → Int32)) (o_clauses_ : Int32) (o_count_ : Int32) (o_lettersOfA_ : Int32) (o_lettersOfB_ : Int32) (hf : f_X5_addClause clauses_ count_ lettersOfA_ lettersOfB_ cells_ x1_ x2_ x3_ = some (o_cells_, o_clauses_, o_count_, o_lettersOfA_, o_lettersOfB_)) : Met l yX5_addClause wsX5_addClause ({ frames := 0, cells := 0, slots := 0, locals := 0 } : Room) (xPre G (xTY cI cJ cZ cO) tS [(a_this, .inr (5, [.ref a_cells, .int clauses_, .int count_, .int lettersOfA_, .int lettersOfB_])), (a_cells, .inl (cI, 320, .inl cells_))] sz [.ref a_this, .int x1_, .int x2_, .int x3_]) (xQv G [(a_this, .inr (5, [.ref a_cells, .int clauses_, .int count_, .int lettersOfA_, .int lettersOfB_])), (a_cells, .inl (cI, 320, .inl cells_))] sz (fun _ : Unit => [(a_this, .inr (5, [.ref a_cells, .int o_clauses_, .int o_count_, .int o_lettersOfA_, .int o_lettersOfB_])), (a_cells, .inl (cI, 320, .inl o_cells_))])) 0 0 (va_A [(a_this, .inr (5, [.ref a_cells, .int clauses_, .int count_, .int lettersOfA_, .int lettersOfB_])), (a_cells, .inl (cI, 320, .inl cells_))] sz) := by
  refine xMet (cc := cX5_addClause) (maxL := 5) (ret := none) (own := RX5) (by decide +kernel) rfl rfl (Nat.le_of_ble_eq_true rfl) rfl ?_
  intro p e s m below meth c ls M hr hlk hin hsz hA hK hZ hP hD hl
  refine w_X5_addClause_0 a_this a_cells hA hK hZ M (o_cells_, o_clauses_, o_count_, o_lettersOfA_, o_lettersOfB_) (fun o_cells_' o_clauses_' o_count_' o_lettersOfA_' o_lettersOfB_' hres H locs ls pc hd hP hD hS => ?_) clauses_ count_ lettersOfA_ lettersOfB_ cells_ x1_ x2_ x3_ hf hP hD va_S.rf hl
  cases hres
  exact xretv (W1 := fun _ : Unit => [(a_this, .inr (5, [.ref a_cells, .int o_clauses_, .int o_count_, .int o_lettersOfA_, .int o_lettersOfB_])), (a_cells, .inl (cI, 320, .inl o_cells_))]) M hr hlk () hP hD hS hd
/-! BetweenBoth$Steps.noneMoreFits()Z -/
theorem uw_X5_noneMoreFits_X5 : ∀ w ∈ u_ws RX5 TX5 5, w ∈ wsX5_noneMoreFits := by decide +kernel
theorem fl_X5_noneMoreFits_15 : Cond.fieldLink RX5 15 "BetweenBoth$Steps" (TX5 2).2.1 (TX5 2).2.2.1 ∈ wsX5_noneMoreFits := by decide +kernel
theorem fl_X5_noneMoreFits_19 : Cond.fieldLink RX5 19 "BetweenBoth$Steps" (TX5 1).2.1 (TX5 1).2.2.1 ∈ wsX5_noneMoreFits := by decide +kernel
theorem hd_X5_noneMoreFits : yX5_noneMoreFits.cls = RX5 ∧ yX5_noneMoreFits.cls ≠ "java/lang/invoke/MethodHandle" ∧ yX5_noneMoreFits.cls ≠ "java/lang/invoke/VarHandle" ∧ (parseMethodDescriptor yX5_noneMoreFits.desc).map (fun d => d.parameters.length) = some 0 := by decide +kernel
def RT_X5_noneMoreFits (p : Program) (l : Launch) (e : Env) (s : State) (m : MethodId) (args : Array Value) (below : List Frame) (meth : Method) (c : Code) (Q : State → Prop) (A : Nat → Prop) (G : va_G) (cI cJ cZ cO : ClassId) (a_this : Nat) (u_cells_ : Value) (u_lettersOfA_ : Value) (u_lettersOfB_ : Value) (clauses_ : Int32) (count_ : Int32) (res : Int32) : Prop := ∀ (v_ : Int32), some v_ = some res → (v_ = 0 ∨ v_ = 1) → ∀ (H : Heap) (locs : List Loc) (ls : Array Slot) (pc : Nat), decode cX5_noneMoreFits pc = .ok (.ireturn, 1) → va_P G vwCl [(a_this, .inr (5, [u_cells_, .int clauses_, .int count_, u_lettersOfA_, u_lettersOfB_]))] H → va_D A [(a_this, .inr (5, [u_cells_, .int clauses_, .int count_, u_lettersOfA_, u_lettersOfB_]))] → va_S A s.heap H locs → W p l e ({ frames := 0, cells := 0, slots := 0, locals := 0 } : Room) s m args below meth c H locs 0 0 Q (F0 m pc ls [.int v_])
set_option maxHeartbeats 4000000 in
set_option maxRecDepth 100000 in
theorem w_X5_noneMoreFits_0 {p : Program} {l : Launch} {e : Env} {s : State} {m : MethodId} {args : Array Value} {below : List Frame} {meth : Method} {c : Code} {Q : State → Prop} {A : Nat → Prop} {G : va_G} {cI cJ cZ cO : ClassId} {tS : Nat} (a_this : Nat) (u_cells_ : Value) (u_lettersOfA_ : Value) (u_lettersOfB_ : Value) (clauses_ : Int32) (count_ : Int32) (hA : ∀ q : Nat, s.heap.size ≤ q → A q) (hK : va_K G vwCl (xTY cI cJ cZ cO) s) (hZ : xST tS A s) (M : CallFix p m c cX5_noneMoreFits 1 s args wsX5_noneMoreFits RX5) (res : Int32) (hR : RT_X5_noneMoreFits p l e s m args below meth c Q A G cI cJ cZ cO a_this u_cells_ u_lettersOfA_ u_lettersOfB_ clauses_ count_ res)   (hf : f_X5_noneMoreFits clauses_ count_ = some res) {H : Heap} {locs : List Loc} {ls : Array Slot} (hP : va_P G vwCl [(a_this, .inr (5, [u_cells_, .int clauses_, .int count_, u_lettersOfA_, u_lettersOfB_]))] H) (hD : va_D A [(a_this, .inr (5, [u_cells_, .int clauses_, .int count_, u_lettersOfA_, u_lettersOfB_]))]) (hS : va_S A s.heap H locs) (hl : lv_has ls 1 [(0, .ref a_this)]) : W p l e ({ frames := 0, cells := 0, slots := 0, locals := 0 } : Room) s m args below meth c H locs 0 0 Q (F0 m 0 ls []) := by
  obtain ⟨hx, hb, hml, hown, hts⟩ := id M
  unfold f_X5_noneMoreFits at hf
  refine lv_aload_n hx hb dX5_noneMoreFits_0 rfl (lv_at hl 0 rfl) ?_
  refine xget M (C := RX5) (T := TX5) (N := 5) (ci := 5) (v := .int count_) uw_X5_noneMoreFits_X5 hK hP 0 rfl rfl 2 (by decide) fl_X5_noneMoreFits_15 rfl rfl dX5_noneMoreFits_1 ?_
  refine lv_aload_n hx hb dX5_noneMoreFits_4 rfl (lv_at hl 0 rfl) ?_
  refine xget M (C := RX5) (T := TX5) (N := 5) (ci := 5) (v := .int clauses_) uw_X5_noneMoreFits_X5 hK hP 0 rfl rfl 1 (by decide) fl_X5_noneMoreFits_19 rfl rfl dX5_noneMoreFits_5 ?_
  refine lv_isub hx hb dX5_noneMoreFits_8 ?_
  refine lv_bipush (v := (30 : Int32)) hx hb dX5_noneMoreFits_9 (by decide) ?_
  refine lv_icmp_lt (tgt := 18) hx hb dX5_noneMoreFits_11 (by decide) (fun hc1 => ?_) (fun hc1 => ?_)
  · have hf := oI_t hc1 hf
    refine lv_iconst (v := (0 : Int32)) hx hb dX5_noneMoreFits_18 (by decide) ?_
    exact hR _ hf (by decide) _ _ _ _ dX5_noneMoreFits_19 hP hD hS
  · have hf := oI_f hc1 hf
    refine lv_iconst (v := (1 : Int32)) hx hb dX5_noneMoreFits_14 (by decide) ?_
    refine lv_goto (tgt := 19) hx hb dX5_noneMoreFits_15 (by decide) ?_
    exact hR _ hf (by decide) _ _ _ _ dX5_noneMoreFits_19 hP hD hS
set_option maxHeartbeats 4000000 in
set_option maxRecDepth 100000 in
theorem c_X5_noneMoreFits (l : Launch) (G : va_G) (cI cJ cZ cO : ClassId) (tS sz : Nat) (a_this : Nat) (u_cells_ : Value) (u_lettersOfA_ : Value) (u_lettersOfB_ : Value) (clauses_ : Int32) (count_ : Int32)  (v_ : Int32) (hf : f_X5_noneMoreFits clauses_ count_ = some v_) : Met l yX5_noneMoreFits wsX5_noneMoreFits ({ frames := 0, cells := 0, slots := 0, locals := 0 } : Room) (xPre G (xTY cI cJ cZ cO) tS [(a_this, .inr (5, [u_cells_, .int clauses_, .int count_, u_lettersOfA_, u_lettersOfB_]))] sz [.ref a_this]) (xQi G [(a_this, .inr (5, [u_cells_, .int clauses_, .int count_, u_lettersOfA_, u_lettersOfB_]))] sz (fun _ : Unit => [(a_this, .inr (5, [u_cells_, .int clauses_, .int count_, u_lettersOfA_, u_lettersOfB_]))]) v_) 0 0 (va_A [(a_this, .inr (5, [u_cells_, .int clauses_, .int count_, u_lettersOfA_, u_lettersOfB_]))] sz) := by
  refine xMet (cc := cX5_noneMoreFits) (maxL := 1) (ret := (some .boolean)) (own := RX5) (by decide +kernel) rfl rfl (Nat.le_of_ble_eq_true rfl) rfl ?_
  intro p e s m below meth c ls M hr hlk hin hsz hA hK hZ hP hD hl
  refine w_X5_noneMoreFits_0 a_this u_cells_ u_lettersOfA_ u_lettersOfB_ clauses_ count_ hA hK hZ M v_ (fun v_' hres hz H locs ls pc hd hP hD hS => ?_)   hf hP hD va_S.rf hl
  cases hres
  exact xretz (W1 := fun _ : Unit => [(a_this, .inr (5, [u_cells_, .int clauses_, .int count_, u_lettersOfA_, u_lettersOfB_]))]) M hr hlk hz () hP hD hS hd
/-! BetweenBoth$Steps.joined(IIII)I -/
theorem hd_X5_joined : yX5_joined.cls = RX5 ∧ yX5_joined.cls ≠ "java/lang/invoke/MethodHandle" ∧ yX5_joined.cls ≠ "java/lang/invoke/VarHandle" ∧ (parseMethodDescriptor yX5_joined.desc).map (fun d => d.parameters.length) = some 4 := by decide +kernel
def RT_X5_joined (p : Program) (l : Launch) (e : Env) (s : State) (m : MethodId) (args : Array Value) (below : List Frame) (meth : Method) (c : Code) (Q : State → Prop) (A : Nat → Prop) (G : va_G) (cI cJ cZ cO : ClassId) (a_this : Nat) (a_cells : Nat) (u_clauses_ : Value) (u_count_ : Value) (u_lettersOfA_ : Value) (u_lettersOfB_ : Value) (cells_ : (Nat → Int32)) (res : Int32) : Prop := ∀ (v_ : Int32), some v_ = some res → ∀ (H : Heap) (locs : List Loc) (ls : Array Slot) (pc : Nat), decode cX5_joined pc = .ok (.ireturn, 1) → va_P G vwCl [(a_this, .inr (5, [.ref a_cells, u_clauses_, u_count_, u_lettersOfA_, u_lettersOfB_])), (a_cells, .inl (cI, 320, .inl cells_))] H → va_D A [(a_this, .inr (5, [.ref a_cells, u_clauses_, u_count_, u_lettersOfA_, u_lettersOfB_])), (a_cells, .inl (cI, 320, .inl cells_))] → va_S A s.heap H locs → W p l e ({ frames := 1, cells := 0, slots := 0, locals := 22 } : Room) s m args below meth c H locs 0 0 Q (F0 m pc ls [.int v_])
set_option maxHeartbeats 4000000 in
set_option maxRecDepth 100000 in
theorem w_X5_joined_0 {p : Program} {l : Launch} {e : Env} {s : State} {m : MethodId} {args : Array Value} {below : List Frame} {meth : Method} {c : Code} {Q : State → Prop} {A : Nat → Prop} {G : va_G} {cI cJ cZ cO : ClassId} {tS : Nat} (a_this : Nat) (a_cells : Nat) (u_clauses_ : Value) (u_count_ : Value) (u_lettersOfA_ : Value) (u_lettersOfB_ : Value) (cells_ : (Nat → Int32)) (hA : ∀ q : Nat, s.heap.size ≤ q → A q) (hK : va_K G vwCl (xTY cI cJ cZ cO) s) (hZ : xST tS A s) (M : CallFix p m c cX5_joined 5 s args wsX5_joined RX5) (res : Int32) (hR : RT_X5_joined p l e s m args below meth c Q A G cI cJ cZ cO a_this a_cells u_clauses_ u_count_ u_lettersOfA_ u_lettersOfB_ cells_ res)  (x1_ : Int32) (x2_ : Int32) (x3_ : Int32) (x4_ : Int32) (hf : f_X5_joined cells_ x1_ x2_ x3_ x4_ = some res) {H : Heap} {locs : List Loc} {ls : Array Slot} (hP : va_P G vwCl [(a_this, .inr (5, [.ref a_cells, u_clauses_, u_count_, u_lettersOfA_, u_lettersOfB_])), (a_cells, .inl (cI, 320, .inl cells_))] H) (hD : va_D A [(a_this, .inr (5, [.ref a_cells, u_clauses_, u_count_, u_lettersOfA_, u_lettersOfB_])), (a_cells, .inl (cI, 320, .inl cells_))]) (hS : va_S A s.heap H locs) (hl : lv_has ls 5 [(0, .ref a_this), (1, .int x1_), (2, .int x2_), (3, .int x3_), (4, .int x4_)]) : W p l e ({ frames := 1, cells := 0, slots := 0, locals := 22 } : Room) s m args below meth c H locs 0 0 Q (F0 m 0 ls []) := by
  obtain ⟨hx, hb, hml, hown, hts⟩ := id M
  unfold f_X5_joined at hf
  refine lv_aload_n hx hb dX5_joined_0 rfl (lv_at hl 0 rfl) ?_
  refine lv_iload_n hx hb dX5_joined_1 rfl (lv_at hl 1 rfl) ?_
  refine lv_iload_n hx hb dX5_joined_2 rfl (lv_at hl 3 rfl) ?_
  obtain ⟨r1, hq2, hf⟩ := oB1_e hf
  refine xci (wr := []) (ws' := fun _ => [(a_this, .inr (5, [.ref a_cells, u_clauses_, u_count_, u_lettersOfA_, u_lettersOfB_])), (a_cells, .inl (cI, 320, .inl cells_))]) hA hP hD hS (xrV (As := [.int x1_, .int x3_]) (rest := []) M hA hK hZ hP hD hS (c_X5_cell l G cI cJ cZ cO tS H.size a_this a_cells (u_clauses_) (u_count_) (u_lettersOfA_) (u_lettersOfB_) cells_ x1_ x3_ r1 hq2) (cwV 2 hts gX5_joined_X5_cell rfl rfl rfl hd_X5_cell ⟨Nat.le_of_ble_eq_true rfl, Nat.le_of_ble_eq_true rfl⟩) [0, 1] rfl rfl 0 rfl rfl rfl hl.1 rfl (Nat.le_of_ble_eq_true rfl) dX5_joined_3 ⟨Nat.le_of_ble_eq_true rfl, Nat.le_of_ble_eq_true rfl⟩) [0, 1] [] [0, 1] rfl rfl rfl rfl (fun _ => rfl) rfl (fun _ H locs hP hD hS => ?_)
  refine lv_aload_n hx hb dX5_joined_6 rfl (lv_at hl 0 rfl) ?_
  refine lv_iload_n hx hb dX5_joined_7 rfl (lv_at hl 2 rfl) ?_
  refine lv_iload_n hx hb dX5_joined_8 rfl (lv_at hl 3 rfl) ?_
  obtain ⟨r3, hq4, hf⟩ := oB1_e hf
  refine xci (wr := []) (ws' := fun _ => [(a_this, .inr (5, [.ref a_cells, u_clauses_, u_count_, u_lettersOfA_, u_lettersOfB_])), (a_cells, .inl (cI, 320, .inl cells_))]) hA hP hD hS (xrV (As := [.int x2_, .int x3_]) (rest := [.int r1]) M hA hK hZ hP hD hS (c_X5_cell l G cI cJ cZ cO tS H.size a_this a_cells (u_clauses_) (u_count_) (u_lettersOfA_) (u_lettersOfB_) cells_ x2_ x3_ r3 hq4) (cwV 2 hts gX5_joined_X5_cell rfl rfl rfl hd_X5_cell ⟨Nat.le_of_ble_eq_true rfl, Nat.le_of_ble_eq_true rfl⟩) [0, 1] rfl rfl 0 rfl rfl rfl hl.1 rfl (Nat.le_of_ble_eq_true rfl) dX5_joined_9 ⟨Nat.le_of_ble_eq_true rfl, Nat.le_of_ble_eq_true rfl⟩) [0, 1] [] [0, 1] rfl rfl rfl rfl (fun _ => rfl) rfl (fun _ H locs hP hD hS => ?_)
  refine lv_ior hx hb dX5_joined_12 ?_
  refine lv_iconst (v := (1 : Int32)) hx hb dX5_joined_13 (by decide) ?_
  refine lv_iload hx hb dX5_joined_14 (lv_at hl 4 rfl) ?_
  refine lv_ishl hx hb dX5_joined_16 ?_
  refine lv_iconst (v := (-1 : Int32)) hx hb dX5_joined_17 (by decide) ?_
  refine lv_ixor hx hb dX5_joined_18 ?_
  refine lv_iand hx hb dX5_joined_19 ?_
  exact hR _ hf _ _ _ _ dX5_joined_20 hP hD hS
set_option maxHeartbeats 4000000 in
set_option maxRecDepth 100000 in
theorem c_X5_joined (l : Launch) (G : va_G) (cI cJ cZ cO : ClassId) (tS sz : Nat) (a_this : Nat) (a_cells : Nat) (u_clauses_ : Value) (u_count_ : Value) (u_lettersOfA_ : Value) (u_lettersOfB_ : Value) (cells_ : (Nat → Int32)) (x1_ : Int32) (x2_ : Int32) (x3_ : Int32) (x4_ : Int32) (v_ : Int32) (hf : f_X5_joined cells_ x1_ x2_ x3_ x4_ = some v_) : Met l yX5_joined wsX5_joined ({ frames := 1, cells := 0, slots := 0, locals := 22 } : Room) (xPre G (xTY cI cJ cZ cO) tS [(a_this, .inr (5, [.ref a_cells, u_clauses_, u_count_, u_lettersOfA_, u_lettersOfB_])), (a_cells, .inl (cI, 320, .inl cells_))] sz [.ref a_this, .int x1_, .int x2_, .int x3_, .int x4_]) (xQi G [(a_this, .inr (5, [.ref a_cells, u_clauses_, u_count_, u_lettersOfA_, u_lettersOfB_])), (a_cells, .inl (cI, 320, .inl cells_))] sz (fun _ : Unit => [(a_this, .inr (5, [.ref a_cells, u_clauses_, u_count_, u_lettersOfA_, u_lettersOfB_])), (a_cells, .inl (cI, 320, .inl cells_))]) v_) 0 0 (va_A [(a_this, .inr (5, [.ref a_cells, u_clauses_, u_count_, u_lettersOfA_, u_lettersOfB_])), (a_cells, .inl (cI, 320, .inl cells_))] sz) := by
  refine xMet (cc := cX5_joined) (maxL := 5) (ret := (some .int)) (own := RX5) (by decide +kernel) rfl rfl (Nat.le_of_ble_eq_true rfl) rfl ?_
  intro p e s m below meth c ls M hr hlk hin hsz hA hK hZ hP hD hl
  refine w_X5_joined_0 a_this a_cells u_clauses_ u_count_ u_lettersOfA_ u_lettersOfB_ cells_ hA hK hZ M v_ (fun v_' hres H locs ls pc hd hP hD hS => ?_)  x1_ x2_ x3_ x4_ hf hP hD va_S.rf hl
  cases hres
  exact xreti (W1 := fun _ : Unit => [(a_this, .inr (5, [.ref a_cells, u_clauses_, u_count_, u_lettersOfA_, u_lettersOfB_])), (a_cells, .inl (cI, 320, .inl cells_))]) M hr hlk () hP hD hS hd
/-! BetweenBoth$Steps.canMake(III)Z -/
theorem hd_X5_canMake : yX5_canMake.cls = RX5 ∧ yX5_canMake.cls ≠ "java/lang/invoke/MethodHandle" ∧ yX5_canMake.cls ≠ "java/lang/invoke/VarHandle" ∧ (parseMethodDescriptor yX5_canMake.desc).map (fun d => d.parameters.length) = some 3 := by decide +kernel
def RT_X5_canMake (p : Program) (l : Launch) (e : Env) (s : State) (m : MethodId) (args : Array Value) (below : List Frame) (meth : Method) (c : Code) (Q : State → Prop) (A : Nat → Prop) (G : va_G) (cI cJ cZ cO : ClassId) (a_this : Nat) (a_cells : Nat) (u_clauses_ : Value) (u_count_ : Value) (u_lettersOfA_ : Value) (u_lettersOfB_ : Value) (cells_ : (Nat → Int32)) (res : Int32) : Prop := ∀ (v_ : Int32), some v_ = some res → (v_ = 0 ∨ v_ = 1) → ∀ (H : Heap) (locs : List Loc) (ls : Array Slot) (pc : Nat), decode cX5_canMake pc = .ok (.ireturn, 1) → va_P G vwCl [(a_this, .inr (5, [.ref a_cells, u_clauses_, u_count_, u_lettersOfA_, u_lettersOfB_])), (a_cells, .inl (cI, 320, .inl cells_))] H → va_D A [(a_this, .inr (5, [.ref a_cells, u_clauses_, u_count_, u_lettersOfA_, u_lettersOfB_])), (a_cells, .inl (cI, 320, .inl cells_))] → va_S A s.heap H locs → W p l e ({ frames := 2, cells := 0, slots := 0, locals := 46 } : Room) s m args below meth c H locs 0 0 Q (F0 m pc ls [.int v_])
set_option maxHeartbeats 4000000 in
set_option maxRecDepth 100000 in
theorem w_X5_canMake_34 {p : Program} {l : Launch} {e : Env} {s : State} {m : MethodId} {args : Array Value} {below : List Frame} {meth : Method} {c : Code} {Q : State → Prop} {A : Nat → Prop} {G : va_G} {cI cJ cZ cO : ClassId} {tS : Nat} (a_this : Nat) (a_cells : Nat) (u_clauses_ : Value) (u_count_ : Value) (u_lettersOfA_ : Value) (u_lettersOfB_ : Value) (cells_ : (Nat → Int32)) (hA : ∀ q : Nat, s.heap.size ≤ q → A q) (hK : va_K G vwCl (xTY cI cJ cZ cO) s) (hZ : xST tS A s) (M : CallFix p m c cX5_canMake 6 s args wsX5_canMake RX5) (res : Int32) (hR : RT_X5_canMake p l e s m args below meth c Q A G cI cJ cZ cO a_this a_cells u_clauses_ u_count_ u_lettersOfA_ u_lettersOfB_ cells_ res) (x1_ : Int32) (x2_ : Int32) (x3_ : Int32) (s0_ : Int32)  (hf : f_X5_canMake_34 cells_ x1_ x2_ x3_ s0_ = some res) {H : Heap} {locs : List Loc} {ls : Array Slot} (hP : va_P G vwCl [(a_this, .inr (5, [.ref a_cells, u_clauses_, u_count_, u_lettersOfA_, u_lettersOfB_])), (a_cells, .inl (cI, 320, .inl cells_))] H) (hD : va_D A [(a_this, .inr (5, [.ref a_cells, u_clauses_, u_count_, u_lettersOfA_, u_lettersOfB_])), (a_cells, .inl (cI, 320, .inl cells_))]) (hS : va_S A s.heap H locs) (hl : lv_has ls 6 [(0, .ref a_this), (1, .int x1_), (2, .int x2_), (3, .int x3_)]) : W p l e ({ frames := 2, cells := 0, slots := 0, locals := 46 } : Room) s m args below meth c H locs 0 0 Q (F0 m 34 ls [.int s0_]) := by
  obtain ⟨hx, hb, hml, hown, hts⟩ := id M
  unfold f_X5_canMake_34 at hf
  refine lv_istore (lv' := [(5, .int s0_), (0, .ref a_this), (1, .int x1_), (2, .int x2_), (3, .int x3_)]) hx hb dX5_canMake_34 hl (by decide) rfl (fun ls hl => ?_)
  refine lv_iload hx hb dX5_canMake_36 (lv_at hl 0 rfl) ?_
  refine lv_if_eq (tgt := 65) hx hb dX5_canMake_38 (by decide) (fun hc1 => ?_) (fun hc1 => ?_)
  · have hf := oI_t hc1 hf
    refine lv_iconst (v := (0 : Int32)) hx hb dX5_canMake_65 (by decide) ?_
    exact hR _ hf (by decide) _ _ _ _ dX5_canMake_66 hP hD hS
  · have hf := oI_f hc1 hf
    refine lv_aload_n hx hb dX5_canMake_41 rfl (lv_at hl 1 rfl) ?_
    refine lv_iload_n hx hb dX5_canMake_42 rfl (lv_at hl 2 rfl) ?_
    refine lv_iload_n hx hb dX5_canMake_43 rfl (lv_at hl 3 rfl) ?_
    refine lv_iconst (v := (0 : Int32)) hx hb dX5_canMake_44 (by decide) ?_
    refine lv_iload_n hx hb dX5_canMake_45 rfl (lv_at hl 4 rfl) ?_
    obtain ⟨r2, hq3, hf⟩ := oB1_e hf
    refine xci (wr := []) (ws' := fun _ => [(a_this, .inr (5, [.ref a_cells, u_clauses_, u_count_, u_lettersOfA_, u_lettersOfB_])), (a_cells, .inl (cI, 320, .inl cells_))]) hA hP hD hS (xrV (As := [.int x1_, .int x2_, .int (0 : Int32), .int x3_]) (rest := []) M hA hK hZ hP hD hS (c_X5_joined l G cI cJ cZ cO tS H.size a_this a_cells (u_clauses_) (u_count_) (u_lettersOfA_) (u_lettersOfB_) cells_ x1_ x2_ (0 : Int32) x3_ r2 hq3) (cwV 4 hts gX5_canMake_X5_joined rfl rfl rfl hd_X5_joined ⟨Nat.le_of_ble_eq_true rfl, Nat.le_of_ble_eq_true rfl⟩) [0, 1] rfl rfl 0 rfl rfl rfl hl.1 rfl (Nat.le_of_ble_eq_true rfl) dX5_canMake_46 ⟨Nat.le_of_ble_eq_true rfl, Nat.le_of_ble_eq_true rfl⟩) [0, 1] [] [0, 1] rfl rfl rfl rfl (fun _ => rfl) rfl (fun _ H locs hP hD hS => ?_)
    refine lv_aload_n hx hb dX5_canMake_49 rfl (lv_at hl 1 rfl) ?_
    refine lv_iload_n hx hb dX5_canMake_50 rfl (lv_at hl 2 rfl) ?_
    refine lv_iload_n hx hb dX5_canMake_51 rfl (lv_at hl 3 rfl) ?_
    refine lv_iconst (v := (1 : Int32)) hx hb dX5_canMake_52 (by decide) ?_
    refine lv_iload_n hx hb dX5_canMake_53 rfl (lv_at hl 4 rfl) ?_
    obtain ⟨r4, hq5, hf⟩ := oB1_e hf
    refine xci (wr := []) (ws' := fun _ => [(a_this, .inr (5, [.ref a_cells, u_clauses_, u_count_, u_lettersOfA_, u_lettersOfB_])), (a_cells, .inl (cI, 320, .inl cells_))]) hA hP hD hS (xrV (As := [.int x1_, .int x2_, .int (1 : Int32), .int x3_]) (rest := [.int r2]) M hA hK hZ hP hD hS (c_X5_joined l G cI cJ cZ cO tS H.size a_this a_cells (u_clauses_) (u_count_) (u_lettersOfA_) (u_lettersOfB_) cells_ x1_ x2_ (1 : Int32) x3_ r4 hq5) (cwV 4 hts gX5_canMake_X5_joined rfl rfl rfl hd_X5_joined ⟨Nat.le_of_ble_eq_true rfl, Nat.le_of_ble_eq_true rfl⟩) [0, 1] rfl rfl 0 rfl rfl rfl hl.1 rfl (Nat.le_of_ble_eq_true rfl) dX5_canMake_54 ⟨Nat.le_of_ble_eq_true rfl, Nat.le_of_ble_eq_true rfl⟩) [0, 1] [] [0, 1] rfl rfl rfl rfl (fun _ => rfl) rfl (fun _ H locs hP hD hS => ?_)
    refine lv_iand hx hb dX5_canMake_57 ?_
    refine lv_if_ne (tgt := 65) hx hb dX5_canMake_58 (by decide) (fun hc6 => ?_) (fun hc6 => ?_)
    · have hf := oI_f hc6 hf
      refine lv_iconst (v := (0 : Int32)) hx hb dX5_canMake_65 (by decide) ?_
      exact hR _ hf (by decide) _ _ _ _ dX5_canMake_66 hP hD hS
    · have hf := oI_t hc6 hf
      refine lv_iconst (v := (1 : Int32)) hx hb dX5_canMake_61 (by decide) ?_
      refine lv_goto (tgt := 66) hx hb dX5_canMake_62 (by decide) ?_
      exact hR _ hf (by decide) _ _ _ _ dX5_canMake_66 hP hD hS
set_option maxHeartbeats 4000000 in
set_option maxRecDepth 100000 in
theorem w_X5_canMake_33 {p : Program} {l : Launch} {e : Env} {s : State} {m : MethodId} {args : Array Value} {below : List Frame} {meth : Method} {c : Code} {Q : State → Prop} {A : Nat → Prop} {G : va_G} {cI cJ cZ cO : ClassId} {tS : Nat} (a_this : Nat) (a_cells : Nat) (u_clauses_ : Value) (u_count_ : Value) (u_lettersOfA_ : Value) (u_lettersOfB_ : Value) (cells_ : (Nat → Int32)) (hA : ∀ q : Nat, s.heap.size ≤ q → A q) (hK : va_K G vwCl (xTY cI cJ cZ cO) s) (hZ : xST tS A s) (M : CallFix p m c cX5_canMake 6 s args wsX5_canMake RX5) (res : Int32) (hR : RT_X5_canMake p l e s m args below meth c Q A G cI cJ cZ cO a_this a_cells u_clauses_ u_count_ u_lettersOfA_ u_lettersOfB_ cells_ res) (x1_ : Int32) (x2_ : Int32) (x3_ : Int32)  (hf : f_X5_canMake_33 cells_ x1_ x2_ x3_ = some res) {H : Heap} {locs : List Loc} {ls : Array Slot} (hP : va_P G vwCl [(a_this, .inr (5, [.ref a_cells, u_clauses_, u_count_, u_lettersOfA_, u_lettersOfB_])), (a_cells, .inl (cI, 320, .inl cells_))] H) (hD : va_D A [(a_this, .inr (5, [.ref a_cells, u_clauses_, u_count_, u_lettersOfA_, u_lettersOfB_])), (a_cells, .inl (cI, 320, .inl cells_))]) (hS : va_S A s.heap H locs) (hl : lv_has ls 6 [(0, .ref a_this), (1, .int x1_), (2, .int x2_), (3, .int x3_)]) : W p l e ({ frames := 2, cells := 0, slots := 0, locals := 46 } : Room) s m args below meth c H locs 0 0 Q (F0 m 33 ls []) := by
  obtain ⟨hx, hb, hml, hown, hts⟩ := id M
  unfold f_X5_canMake_33 at hf
  refine lv_iconst (v := (0 : Int32)) hx hb dX5_canMake_33 (by decide) ?_
  exact w_X5_canMake_34 a_this a_cells u_clauses_ u_count_ u_lettersOfA_ u_lettersOfB_ cells_ hA hK hZ M res hR x1_ x2_ x3_ (0 : Int32)  hf hP hD hS (lv_sub hl [0, 1, 2, 3] rfl)
set_option maxHeartbeats 4000000 in
set_option maxRecDepth 100000 in
theorem w_X5_canMake_0 {p : Program} {l : Launch} {e : Env} {s : State} {m : MethodId} {args : Array Value} {below : List Frame} {meth : Method} {c : Code} {Q : State → Prop} {A : Nat → Prop} {G : va_G} {cI cJ cZ cO : ClassId} {tS : Nat} (a_this : Nat) (a_cells : Nat) (u_clauses_ : Value) (u_count_ : Value) (u_lettersOfA_ : Value) (u_lettersOfB_ : Value) (cells_ : (Nat → Int32)) (hA : ∀ q : Nat, s.heap.size ≤ q → A q) (hK : va_K G vwCl (xTY cI cJ cZ cO) s) (hZ : xST tS A s) (M : CallFix p m c cX5_canMake 6 s args wsX5_canMake RX5) (res : Int32) (hR : RT_X5_canMake p l e s m args below meth c Q A G cI cJ cZ cO a_this a_cells u_clauses_ u_count_ u_lettersOfA_ u_lettersOfB_ cells_ res)  (x1_ : Int32) (x2_ : Int32) (x3_ : Int32) (hf : f_X5_canMake cells_ x1_ x2_ x3_ = some res) {H : Heap} {locs : List Loc} {ls : Array Slot} (hP : va_P G vwCl [(a_this, .inr (5, [.ref a_cells, u_clauses_, u_count_, u_lettersOfA_, u_lettersOfB_])), (a_cells, .inl (cI, 320, .inl cells_))] H) (hD : va_D A [(a_this, .inr (5, [.ref a_cells, u_clauses_, u_count_, u_lettersOfA_, u_lettersOfB_])), (a_cells, .inl (cI, 320, .inl cells_))]) (hS : va_S A s.heap H locs) (hl : lv_has ls 6 [(0, .ref a_this), (1, .int x1_), (2, .int x2_), (3, .int x3_)]) : W p l e ({ frames := 2, cells := 0, slots := 0, locals := 46 } : Room) s m args below meth c H locs 0 0 Q (F0 m 0 ls []) := by
  obtain ⟨hx, hb, hml, hown, hts⟩ := id M
  unfold f_X5_canMake at hf
  refine lv_iconst (v := (1 : Int32)) hx hb dX5_canMake_0 (by decide) ?_
  refine lv_iload_n hx hb dX5_canMake_1 rfl (lv_at hl 3 rfl) ?_
  refine lv_ishl hx hb dX5_canMake_2 ?_
  obtain ⟨x4_1, ex4_1, hf⟩ := oL_e hf
  refine xtopi ex4_1 ?_
  refine lv_istore (lv' := [(4, .int x4_1), (0, .ref a_this), (1, .int x1_), (2, .int x2_), (3, .int x3_)]) hx hb dX5_canMake_3 hl (by decide) rfl (fun ls hl => ?_)
  refine lv_aload_n hx hb dX5_canMake_5 rfl (lv_at hl 1 rfl) ?_
  refine lv_iload_n hx hb dX5_canMake_6 rfl (lv_at hl 2 rfl) ?_
  refine lv_iconst (v := (0 : Int32)) hx hb dX5_canMake_7 (by decide) ?_
  obtain ⟨r2, hq3, hf⟩ := oB1_e hf
  refine xci (wr := []) (ws' := fun _ => [(a_this, .inr (5, [.ref a_cells, u_clauses_, u_count_, u_lettersOfA_, u_lettersOfB_])), (a_cells, .inl (cI, 320, .inl cells_))]) hA hP hD hS (xrV (As := [.int x1_, .int (0 : Int32)]) (rest := []) M hA hK hZ hP hD hS (c_X5_cell l G cI cJ cZ cO tS H.size a_this a_cells (u_clauses_) (u_count_) (u_lettersOfA_) (u_lettersOfB_) cells_ x1_ (0 : Int32) r2 hq3) (cwV 2 hts gX5_canMake_X5_cell rfl rfl rfl hd_X5_cell ⟨Nat.le_of_ble_eq_true rfl, Nat.le_of_ble_eq_true rfl⟩) [0, 1] rfl rfl 0 rfl rfl rfl hl.1 rfl (Nat.le_of_ble_eq_true rfl) dX5_canMake_8 ⟨Nat.le_of_ble_eq_true rfl, Nat.le_of_ble_eq_true rfl⟩) [0, 1] [] [0, 1] rfl rfl rfl rfl (fun _ => rfl) rfl (fun _ H locs hP hD hS => ?_)
  refine lv_iload hx hb dX5_canMake_11 (lv_at hl 0 rfl) ?_
  refine lv_iand hx hb dX5_canMake_13 ?_
  refine lv_if_eq (tgt := 33) hx hb dX5_canMake_14 (by decide) (fun hc4 => ?_) (fun hc4 => ?_)
  · have hf := oI_t hc4 hf
    exact w_X5_canMake_33 a_this a_cells u_clauses_ u_count_ u_lettersOfA_ u_lettersOfB_ cells_ hA hK hZ M res hR x1_ x2_ x3_  hf hP hD hS (lv_sub hl [1, 2, 3, 4] rfl)
  · have hf := oI_f hc4 hf
    refine lv_aload_n hx hb dX5_canMake_17 rfl (lv_at hl 1 rfl) ?_
    refine lv_iload_n hx hb dX5_canMake_18 rfl (lv_at hl 3 rfl) ?_
    refine lv_iconst (v := (1 : Int32)) hx hb dX5_canMake_19 (by decide) ?_
    obtain ⟨r5, hq6, hf⟩ := oB1_e hf
    refine xci (wr := []) (ws' := fun _ => [(a_this, .inr (5, [.ref a_cells, u_clauses_, u_count_, u_lettersOfA_, u_lettersOfB_])), (a_cells, .inl (cI, 320, .inl cells_))]) hA hP hD hS (xrV (As := [.int x2_, .int (1 : Int32)]) (rest := []) M hA hK hZ hP hD hS (c_X5_cell l G cI cJ cZ cO tS H.size a_this a_cells (u_clauses_) (u_count_) (u_lettersOfA_) (u_lettersOfB_) cells_ x2_ (1 : Int32) r5 hq6) (cwV 2 hts gX5_canMake_X5_cell rfl rfl rfl hd_X5_cell ⟨Nat.le_of_ble_eq_true rfl, Nat.le_of_ble_eq_true rfl⟩) [0, 1] rfl rfl 0 rfl rfl rfl hl.1 rfl (Nat.le_of_ble_eq_true rfl) dX5_canMake_20 ⟨Nat.le_of_ble_eq_true rfl, Nat.le_of_ble_eq_true rfl⟩) [0, 1] [] [0, 1] rfl rfl rfl rfl (fun _ => rfl) rfl (fun _ H locs hP hD hS => ?_)
    refine lv_iload hx hb dX5_canMake_23 (lv_at hl 0 rfl) ?_
    refine lv_iand hx hb dX5_canMake_25 ?_
    refine lv_if_eq (tgt := 33) hx hb dX5_canMake_26 (by decide) (fun hc7 => ?_) (fun hc7 => ?_)
    · have hf := oI_t hc7 hf
      exact w_X5_canMake_33 a_this a_cells u_clauses_ u_count_ u_lettersOfA_ u_lettersOfB_ cells_ hA hK hZ M res hR x1_ x2_ x3_  hf hP hD hS (lv_sub hl [1, 2, 3, 4] rfl)
    · have hf := oI_f hc7 hf
      refine lv_iconst (v := (1 : Int32)) hx hb dX5_canMake_29 (by decide) ?_
      refine lv_goto (tgt := 34) hx hb dX5_canMake_30 (by decide) ?_
      exact w_X5_canMake_34 a_this a_cells u_clauses_ u_count_ u_lettersOfA_ u_lettersOfB_ cells_ hA hK hZ M res hR x1_ x2_ x3_ (1 : Int32)  hf hP hD hS (lv_sub hl [1, 2, 3, 4] rfl)
set_option maxHeartbeats 4000000 in
set_option maxRecDepth 100000 in
theorem c_X5_canMake (l : Launch) (G : va_G) (cI cJ cZ cO : ClassId) (tS sz : Nat) (a_this : Nat) (a_cells : Nat) (u_clauses_ : Value) (u_count_ : Value) (u_lettersOfA_ : Value) (u_lettersOfB_ : Value) (cells_ : (Nat → Int32)) (x1_ : Int32) (x2_ : Int32) (x3_ : Int32) (v_ : Int32) (hf : f_X5_canMake cells_ x1_ x2_ x3_ = some v_) : Met l yX5_canMake wsX5_canMake ({ frames := 2, cells := 0, slots := 0, locals := 46 } : Room) (xPre G (xTY cI cJ cZ cO) tS [(a_this, .inr (5, [.ref a_cells, u_clauses_, u_count_, u_lettersOfA_, u_lettersOfB_])), (a_cells, .inl (cI, 320, .inl cells_))] sz [.ref a_this, .int x1_, .int x2_, .int x3_]) (xQi G [(a_this, .inr (5, [.ref a_cells, u_clauses_, u_count_, u_lettersOfA_, u_lettersOfB_])), (a_cells, .inl (cI, 320, .inl cells_))] sz (fun _ : Unit => [(a_this, .inr (5, [.ref a_cells, u_clauses_, u_count_, u_lettersOfA_, u_lettersOfB_])), (a_cells, .inl (cI, 320, .inl cells_))]) v_) 0 0 (va_A [(a_this, .inr (5, [.ref a_cells, u_clauses_, u_count_, u_lettersOfA_, u_lettersOfB_])), (a_cells, .inl (cI, 320, .inl cells_))] sz) := by
  refine xMet (cc := cX5_canMake) (maxL := 6) (ret := (some .boolean)) (own := RX5) (by decide +kernel) rfl rfl (Nat.le_of_ble_eq_true rfl) rfl ?_
  intro p e s m below meth c ls M hr hlk hin hsz hA hK hZ hP hD hl
  refine w_X5_canMake_0 a_this a_cells u_clauses_ u_count_ u_lettersOfA_ u_lettersOfB_ cells_ hA hK hZ M v_ (fun v_' hres hz H locs ls pc hd hP hD hS => ?_)  x1_ x2_ x3_ hf hP hD va_S.rf hl
  cases hres
  exact xretz (W1 := fun _ : Unit => [(a_this, .inr (5, [.ref a_cells, u_clauses_, u_count_, u_lettersOfA_, u_lettersOfB_])), (a_cells, .inl (cI, 320, .inl cells_))]) M hr hlk hz () hP hD hS hd
/-! BetweenBoth$Steps.make(III)I -/
theorem uw_X5_make_X5 : ∀ w ∈ u_ws RX5 TX5 5, w ∈ wsX5_make := by decide +kernel
theorem fl_X5_make_15 : Cond.fieldLink RX5 15 "BetweenBoth$Steps" (TX5 2).2.1 (TX5 2).2.2.1 ∈ wsX5_make := by decide +kernel
theorem fl_X5_make_11 : Cond.fieldLink RX5 11 "BetweenBoth$Steps" (TX5 0).2.1 (TX5 0).2.2.1 ∈ wsX5_make := by decide +kernel
theorem mm_X5_make_42 : Cond.methodLink RX5 42 Lib.Math.max.name ∈ wsX5_make ∧ Cond.static Lib.Math.max.name ∈ wsX5_make ∧ Cond.initialized "java/lang/Math" ∈ wsX5_make ∧ Cond.code Lib.Math.max.name Lib.Math.max.code 2 (some .int) ∈ wsX5_make := by decide +kernel
theorem hd_X5_make : yX5_make.cls = RX5 ∧ yX5_make.cls ≠ "java/lang/invoke/MethodHandle" ∧ yX5_make.cls ≠ "java/lang/invoke/VarHandle" ∧ (parseMethodDescriptor yX5_make.desc).map (fun d => d.parameters.length) = some 3 := by decide +kernel
def RT_X5_make (p : Program) (l : Launch) (e : Env) (s : State) (m : MethodId) (args : Array Value) (below : List Frame) (meth : Method) (c : Code) (Q : State → Prop) (A : Nat → Prop) (G : va_G) (cI cJ cZ cO : ClassId) (a_this : Nat) (a_cells : Nat) (u_clauses_ : Value) (u_lettersOfA_ : Value) (u_lettersOfB_ : Value) (res : Int32 × (Nat → Int32) × Int32) : Prop := ∀ (v_ : Int32) (o_cells_ : (Nat → Int32)) (o_count_ : Int32), some (v_, o_cells_, o_count_) = some res → ∀ (H : Heap) (locs : List Loc) (ls : Array Slot) (pc : Nat), decode cX5_make pc = .ok (.ireturn, 1) → va_P G vwCl [(a_this, .inr (5, [.ref a_cells, u_clauses_, .int o_count_, u_lettersOfA_, u_lettersOfB_])), (a_cells, .inl (cI, 320, .inl o_cells_))] H → va_D A [(a_this, .inr (5, [.ref a_cells, u_clauses_, .int o_count_, u_lettersOfA_, u_lettersOfB_])), (a_cells, .inl (cI, 320, .inl o_cells_))] → va_S A s.heap H locs → W p l e ({ frames := 2, cells := 0, slots := 0, locals := 46 } : Room) s m args below meth c H locs 0 0 Q (F0 m pc ls [.int v_])
set_option maxHeartbeats 4000000 in
set_option maxRecDepth 100000 in
theorem w_X5_make_0 {p : Program} {l : Launch} {e : Env} {s : State} {m : MethodId} {args : Array Value} {below : List Frame} {meth : Method} {c : Code} {Q : State → Prop} {A : Nat → Prop} {G : va_G} {cI cJ cZ cO : ClassId} {tS : Nat} (a_this : Nat) (a_cells : Nat) (u_clauses_ : Value) (u_lettersOfA_ : Value) (u_lettersOfB_ : Value) (hA : ∀ q : Nat, s.heap.size ≤ q → A q) (hK : va_K G vwCl (xTY cI cJ cZ cO) s) (hZ : xST tS A s) (M : CallFix p m c cX5_make 6 s args wsX5_make RX5) (res : Int32 × (Nat → Int32) × Int32) (hR : RT_X5_make p l e s m args below meth c Q A G cI cJ cZ cO a_this a_cells u_clauses_ u_lettersOfA_ u_lettersOfB_ res) (count_ : Int32) (cells_ : (Nat → Int32)) (x1_ : Int32) (x2_ : Int32) (x3_ : Int32) (hf : f_X5_make count_ cells_ x1_ x2_ x3_ = some res) {H : Heap} {locs : List Loc} {ls : Array Slot} (hP : va_P G vwCl [(a_this, .inr (5, [.ref a_cells, u_clauses_, .int count_, u_lettersOfA_, u_lettersOfB_])), (a_cells, .inl (cI, 320, .inl cells_))] H) (hD : va_D A [(a_this, .inr (5, [.ref a_cells, u_clauses_, .int count_, u_lettersOfA_, u_lettersOfB_])), (a_cells, .inl (cI, 320, .inl cells_))]) (hS : va_S A s.heap H locs) (hl : lv_has ls 6 [(0, .ref a_this), (1, .int x1_), (2, .int x2_), (3, .int x3_)]) : W p l e ({ frames := 2, cells := 0, slots := 0, locals := 46 } : Room) s m args below meth c H locs 0 0 Q (F0 m 0 ls []) := by
  obtain ⟨hx, hb, hml, hown, hts⟩ := id M
  unfold f_X5_make at hf
  refine lv_aload_n hx hb dX5_make_0 rfl (lv_at hl 0 rfl) ?_
  refine xget M (C := RX5) (T := TX5) (N := 5) (ci := 5) (v := .int count_) uw_X5_make_X5 hK hP 0 rfl rfl 2 (by decide) fl_X5_make_15 rfl rfl dX5_make_1 ?_
  refine lv_istore (lv' := [(4, .int count_), (0, .ref a_this), (1, .int x1_), (2, .int x2_), (3, .int x3_)]) hx hb dX5_make_4 hl (by decide) rfl (fun ls hl => ?_)
  refine lv_iload hx hb dX5_make_6 (lv_at hl 0 rfl) ?_
  refine lv_bipush (v := (8 : Int32)) hx hb dX5_make_8 (by decide) ?_
  refine lv_imul hx hb dX5_make_10 ?_
  obtain ⟨x5_1, ex5_1, hf⟩ := oL_e hf
  refine xtopi ex5_1 ?_
  refine lv_istore (lv' := [(5, .int x5_1), (4, .int count_), (0, .ref a_this), (1, .int x1_), (2, .int x2_), (3, .int x3_)]) hx hb dX5_make_11 hl (by decide) rfl (fun ls hl => ?_)
  refine lv_aload_n hx hb dX5_make_13 rfl (lv_at hl 2 rfl) ?_
  refine xget M (C := RX5) (T := TX5) (N := 5) (ci := 5) (v := .ref a_cells) uw_X5_make_X5 hK hP 0 rfl rfl 0 (by decide) fl_X5_make_11 rfl rfl dX5_make_14 ?_
  refine lv_iload hx hb dX5_make_17 (lv_at hl 0 rfl) ?_
  refine lv_iconst (v := (0 : Int32)) hx hb dX5_make_19 (by decide) ?_
  refine lv_iadd hx hb dX5_make_20 ?_
  refine lv_aload_n hx hb dX5_make_21 rfl (lv_at hl 2 rfl) ?_
  refine lv_iload_n hx hb dX5_make_22 rfl (lv_at hl 3 rfl) ?_
  refine lv_iload_n hx hb dX5_make_23 rfl (lv_at hl 4 rfl) ?_
  refine lv_iconst (v := (0 : Int32)) hx hb dX5_make_24 (by decide) ?_
  refine lv_iload_n hx hb dX5_make_25 rfl (lv_at hl 5 rfl) ?_
  obtain ⟨r2, hq3, hf⟩ := oB1_e hf
  refine xci (wr := []) (ws' := fun _ => [(a_this, .inr (5, [.ref a_cells, u_clauses_, .int count_, u_lettersOfA_, u_lettersOfB_])), (a_cells, .inl (cI, 320, .inl cells_))]) hA hP hD hS (xrV (As := [.int x1_, .int x2_, .int (0 : Int32), .int x3_]) (rest := [.int (x5_1 + (0 : Int32)), .ref a_cells]) M hA hK hZ hP hD hS (c_X5_joined l G cI cJ cZ cO tS H.size a_this a_cells (u_clauses_) (.int count_) (u_lettersOfA_) (u_lettersOfB_) cells_ x1_ x2_ (0 : Int32) x3_ r2 hq3) (cwV 4 hts gX5_make_X5_joined rfl rfl rfl hd_X5_joined ⟨Nat.le_of_ble_eq_true rfl, Nat.le_of_ble_eq_true rfl⟩) [0, 1] rfl rfl 0 rfl rfl rfl hl.1 rfl (Nat.le_of_ble_eq_true rfl) dX5_make_26 ⟨Nat.le_of_ble_eq_true rfl, Nat.le_of_ble_eq_true rfl⟩) [0, 1] [] [0, 1] rfl rfl rfl rfl (fun _ => rfl) rfl (fun _ H locs hP hD hS => ?_)
  obtain ⟨j4, hj4, hij4, hf⟩ := oA_e hf
  obtain ⟨cells_5, ecells_5, hf⟩ := oL_e hf
  refine xiast M hK hP hD hS 1 0 rfl rfl hj4 hij4 ecells_5 [(a_this, .inr (5, [.ref a_cells, u_clauses_, .int count_, u_lettersOfA_, u_lettersOfB_])), (a_cells, .inl (cI, 320, .inl cells_5))] rfl dX5_make_29 (fun H locs hP hD hS => ?_)
  refine lv_aload_n hx hb dX5_make_30 rfl (lv_at hl 2 rfl) ?_
  refine xget M (C := RX5) (T := TX5) (N := 5) (ci := 5) (v := .ref a_cells) uw_X5_make_X5 hK hP 0 rfl rfl 0 (by decide) fl_X5_make_11 rfl rfl dX5_make_31 ?_
  refine lv_iload hx hb dX5_make_34 (lv_at hl 0 rfl) ?_
  refine lv_iconst (v := (1 : Int32)) hx hb dX5_make_36 (by decide) ?_
  refine lv_iadd hx hb dX5_make_37 ?_
  refine lv_aload_n hx hb dX5_make_38 rfl (lv_at hl 2 rfl) ?_
  refine lv_iload_n hx hb dX5_make_39 rfl (lv_at hl 3 rfl) ?_
  refine lv_iload_n hx hb dX5_make_40 rfl (lv_at hl 4 rfl) ?_
  refine lv_iconst (v := (1 : Int32)) hx hb dX5_make_41 (by decide) ?_
  refine lv_iload_n hx hb dX5_make_42 rfl (lv_at hl 5 rfl) ?_
  obtain ⟨r6, hq7, hf⟩ := oB1_e hf
  refine xci (wr := []) (ws' := fun _ => [(a_this, .inr (5, [.ref a_cells, u_clauses_, .int count_, u_lettersOfA_, u_lettersOfB_])), (a_cells, .inl (cI, 320, .inl cells_5))]) hA hP hD hS (xrV (As := [.int x1_, .int x2_, .int (1 : Int32), .int x3_]) (rest := [.int (x5_1 + (1 : Int32)), .ref a_cells]) M hA hK hZ hP hD hS (c_X5_joined l G cI cJ cZ cO tS H.size a_this a_cells (u_clauses_) (.int count_) (u_lettersOfA_) (u_lettersOfB_) cells_5 x1_ x2_ (1 : Int32) x3_ r6 hq7) (cwV 4 hts gX5_make_X5_joined rfl rfl rfl hd_X5_joined ⟨Nat.le_of_ble_eq_true rfl, Nat.le_of_ble_eq_true rfl⟩) [0, 1] rfl rfl 0 rfl rfl rfl hl.1 rfl (Nat.le_of_ble_eq_true rfl) dX5_make_43 ⟨Nat.le_of_ble_eq_true rfl, Nat.le_of_ble_eq_true rfl⟩) [0, 1] [] [0, 1] rfl rfl rfl rfl (fun _ => rfl) rfl (fun _ H locs hP hD hS => ?_)
  obtain ⟨j8, hj8, hij8, hf⟩ := oA_e hf
  obtain ⟨cells_9, ecells_9, hf⟩ := oL_e hf
  refine xiast M hK hP hD hS 1 0 rfl rfl hj8 hij8 ecells_9 [(a_this, .inr (5, [.ref a_cells, u_clauses_, .int count_, u_lettersOfA_, u_lettersOfB_])), (a_cells, .inl (cI, 320, .inl cells_9))] rfl dX5_make_46 (fun H locs hP hD hS => ?_)
  refine lv_aload_n hx hb dX5_make_47 rfl (lv_at hl 2 rfl) ?_
  refine xget M (C := RX5) (T := TX5) (N := 5) (ci := 5) (v := .ref a_cells) uw_X5_make_X5 hK hP 0 rfl rfl 0 (by decide) fl_X5_make_11 rfl rfl dX5_make_48 ?_
  refine lv_iload hx hb dX5_make_51 (lv_at hl 0 rfl) ?_
  refine lv_iconst (v := (2 : Int32)) hx hb dX5_make_53 (by decide) ?_
  refine lv_iadd hx hb dX5_make_54 ?_
  refine lv_iconst (v := (-1 : Int32)) hx hb dX5_make_55 (by decide) ?_
  obtain ⟨j10, hj10, hij10, hf⟩ := oA_e hf
  obtain ⟨cells_11, ecells_11, hf⟩ := oL_e hf
  refine xiast M hK hP hD hS 1 0 rfl rfl hj10 hij10 ecells_11 [(a_this, .inr (5, [.ref a_cells, u_clauses_, .int count_, u_lettersOfA_, u_lettersOfB_])), (a_cells, .inl (cI, 320, .inl cells_11))] rfl dX5_make_56 (fun H locs hP hD hS => ?_)
  refine lv_aload_n hx hb dX5_make_57 rfl (lv_at hl 2 rfl) ?_
  refine xget M (C := RX5) (T := TX5) (N := 5) (ci := 5) (v := .ref a_cells) uw_X5_make_X5 hK hP 0 rfl rfl 0 (by decide) fl_X5_make_11 rfl rfl dX5_make_58 ?_
  refine lv_iload hx hb dX5_make_61 (lv_at hl 0 rfl) ?_
  refine lv_iconst (v := (3 : Int32)) hx hb dX5_make_63 (by decide) ?_
  refine lv_iadd hx hb dX5_make_64 ?_
  refine lv_iload_n hx hb dX5_make_65 rfl (lv_at hl 3 rfl) ?_
  obtain ⟨j12, hj12, hij12, hf⟩ := oA_e hf
  obtain ⟨cells_13, ecells_13, hf⟩ := oL_e hf
  refine xiast M hK hP hD hS 1 0 rfl rfl hj12 hij12 ecells_13 [(a_this, .inr (5, [.ref a_cells, u_clauses_, .int count_, u_lettersOfA_, u_lettersOfB_])), (a_cells, .inl (cI, 320, .inl cells_13))] rfl dX5_make_66 (fun H locs hP hD hS => ?_)
  refine lv_aload_n hx hb dX5_make_67 rfl (lv_at hl 2 rfl) ?_
  refine xget M (C := RX5) (T := TX5) (N := 5) (ci := 5) (v := .ref a_cells) uw_X5_make_X5 hK hP 0 rfl rfl 0 (by decide) fl_X5_make_11 rfl rfl dX5_make_68 ?_
  refine lv_iload hx hb dX5_make_71 (lv_at hl 0 rfl) ?_
  refine lv_iconst (v := (4 : Int32)) hx hb dX5_make_73 (by decide) ?_
  refine lv_iadd hx hb dX5_make_74 ?_
  refine lv_iload_n hx hb dX5_make_75 rfl (lv_at hl 4 rfl) ?_
  obtain ⟨j14, hj14, hij14, hf⟩ := oA_e hf
  obtain ⟨cells_15, ecells_15, hf⟩ := oL_e hf
  refine xiast M hK hP hD hS 1 0 rfl rfl hj14 hij14 ecells_15 [(a_this, .inr (5, [.ref a_cells, u_clauses_, .int count_, u_lettersOfA_, u_lettersOfB_])), (a_cells, .inl (cI, 320, .inl cells_15))] rfl dX5_make_76 (fun H locs hP hD hS => ?_)
  refine lv_aload_n hx hb dX5_make_77 rfl (lv_at hl 2 rfl) ?_
  refine xget M (C := RX5) (T := TX5) (N := 5) (ci := 5) (v := .ref a_cells) uw_X5_make_X5 hK hP 0 rfl rfl 0 (by decide) fl_X5_make_11 rfl rfl dX5_make_78 ?_
  refine lv_iload hx hb dX5_make_81 (lv_at hl 0 rfl) ?_
  refine lv_iconst (v := (5 : Int32)) hx hb dX5_make_83 (by decide) ?_
  refine lv_iadd hx hb dX5_make_84 ?_
  refine lv_iload_n hx hb dX5_make_85 rfl (lv_at hl 5 rfl) ?_
  obtain ⟨j16, hj16, hij16, hf⟩ := oA_e hf
  obtain ⟨cells_17, ecells_17, hf⟩ := oL_e hf
  refine xiast M hK hP hD hS 1 0 rfl rfl hj16 hij16 ecells_17 [(a_this, .inr (5, [.ref a_cells, u_clauses_, .int count_, u_lettersOfA_, u_lettersOfB_])), (a_cells, .inl (cI, 320, .inl cells_17))] rfl dX5_make_86 (fun H locs hP hD hS => ?_)
  refine lv_aload_n hx hb dX5_make_87 rfl (lv_at hl 2 rfl) ?_
  refine xget M (C := RX5) (T := TX5) (N := 5) (ci := 5) (v := .ref a_cells) uw_X5_make_X5 hK hP 0 rfl rfl 0 (by decide) fl_X5_make_11 rfl rfl dX5_make_88 ?_
  refine lv_iload hx hb dX5_make_91 (lv_at hl 0 rfl) ?_
  refine lv_bipush (v := (6 : Int32)) hx hb dX5_make_93 (by decide) ?_
  refine lv_iadd hx hb dX5_make_95 ?_
  refine lv_aload_n hx hb dX5_make_96 rfl (lv_at hl 2 rfl) ?_
  refine lv_iload_n hx hb dX5_make_97 rfl (lv_at hl 3 rfl) ?_
  refine lv_bipush (v := (6 : Int32)) hx hb dX5_make_98 (by decide) ?_
  obtain ⟨r18, hq19, hf⟩ := oB1_e hf
  refine xci (wr := []) (ws' := fun _ => [(a_this, .inr (5, [.ref a_cells, u_clauses_, .int count_, u_lettersOfA_, u_lettersOfB_])), (a_cells, .inl (cI, 320, .inl cells_17))]) hA hP hD hS (xrV (As := [.int x1_, .int (6 : Int32)]) (rest := [.int (x5_1 + (6 : Int32)), .ref a_cells]) M hA hK hZ hP hD hS (c_X5_cell l G cI cJ cZ cO tS H.size a_this a_cells (u_clauses_) (.int count_) (u_lettersOfA_) (u_lettersOfB_) cells_17 x1_ (6 : Int32) r18 hq19) (cwV 2 hts gX5_make_X5_cell rfl rfl rfl hd_X5_cell ⟨Nat.le_of_ble_eq_true rfl, Nat.le_of_ble_eq_true rfl⟩) [0, 1] rfl rfl 0 rfl rfl rfl hl.1 rfl (Nat.le_of_ble_eq_true rfl) dX5_make_100 ⟨Nat.le_of_ble_eq_true rfl, Nat.le_of_ble_eq_true rfl⟩) [0, 1] [] [0, 1] rfl rfl rfl rfl (fun _ => rfl) rfl (fun _ H locs hP hD hS => ?_)
  refine lv_aload_n hx hb dX5_make_103 rfl (lv_at hl 2 rfl) ?_
  refine lv_iload_n hx hb dX5_make_104 rfl (lv_at hl 4 rfl) ?_
  refine lv_bipush (v := (6 : Int32)) hx hb dX5_make_105 (by decide) ?_
  obtain ⟨r20, hq21, hf⟩ := oB1_e hf
  refine xci (wr := []) (ws' := fun _ => [(a_this, .inr (5, [.ref a_cells, u_clauses_, .int count_, u_lettersOfA_, u_lettersOfB_])), (a_cells, .inl (cI, 320, .inl cells_17))]) hA hP hD hS (xrV (As := [.int x2_, .int (6 : Int32)]) (rest := [.int r18, .int (x5_1 + (6 : Int32)), .ref a_cells]) M hA hK hZ hP hD hS (c_X5_cell l G cI cJ cZ cO tS H.size a_this a_cells (u_clauses_) (.int count_) (u_lettersOfA_) (u_lettersOfB_) cells_17 x2_ (6 : Int32) r20 hq21) (cwV 2 hts gX5_make_X5_cell rfl rfl rfl hd_X5_cell ⟨Nat.le_of_ble_eq_true rfl, Nat.le_of_ble_eq_true rfl⟩) [0, 1] rfl rfl 0 rfl rfl rfl hl.1 rfl (Nat.le_of_ble_eq_true rfl) dX5_make_107 ⟨Nat.le_of_ble_eq_true rfl, Nat.le_of_ble_eq_true rfl⟩) [0, 1] [] [0, 1] rfl rfl rfl rfl (fun _ => rfl) rfl (fun _ H locs hP hD hS => ?_)
  refine lv_ior hx hb dX5_make_110 ?_
  obtain ⟨j22, hj22, hij22, hf⟩ := oA_e hf
  obtain ⟨cells_23, ecells_23, hf⟩ := oL_e hf
  refine xiast M hK hP hD hS 1 0 rfl rfl hj22 hij22 ecells_23 [(a_this, .inr (5, [.ref a_cells, u_clauses_, .int count_, u_lettersOfA_, u_lettersOfB_])), (a_cells, .inl (cI, 320, .inl cells_23))] rfl dX5_make_111 (fun H locs hP hD hS => ?_)
  refine lv_aload_n hx hb dX5_make_112 rfl (lv_at hl 2 rfl) ?_
  refine xget M (C := RX5) (T := TX5) (N := 5) (ci := 5) (v := .ref a_cells) uw_X5_make_X5 hK hP 0 rfl rfl 0 (by decide) fl_X5_make_11 rfl rfl dX5_make_113 ?_
  refine lv_iload hx hb dX5_make_116 (lv_at hl 0 rfl) ?_
  refine lv_bipush (v := (7 : Int32)) hx hb dX5_make_118 (by decide) ?_
  refine lv_iadd hx hb dX5_make_120 ?_
  refine lv_iconst (v := (1 : Int32)) hx hb dX5_make_121 (by decide) ?_
  refine lv_aload_n hx hb dX5_make_122 rfl (lv_at hl 2 rfl) ?_
  refine lv_iload_n hx hb dX5_make_123 rfl (lv_at hl 3 rfl) ?_
  refine lv_bipush (v := (7 : Int32)) hx hb dX5_make_124 (by decide) ?_
  obtain ⟨r24, hq25, hf⟩ := oB1_e hf
  refine xci (wr := []) (ws' := fun _ => [(a_this, .inr (5, [.ref a_cells, u_clauses_, .int count_, u_lettersOfA_, u_lettersOfB_])), (a_cells, .inl (cI, 320, .inl cells_23))]) hA hP hD hS (xrV (As := [.int x1_, .int (7 : Int32)]) (rest := [.int (1 : Int32), .int (x5_1 + (7 : Int32)), .ref a_cells]) M hA hK hZ hP hD hS (c_X5_cell l G cI cJ cZ cO tS H.size a_this a_cells (u_clauses_) (.int count_) (u_lettersOfA_) (u_lettersOfB_) cells_23 x1_ (7 : Int32) r24 hq25) (cwV 2 hts gX5_make_X5_cell rfl rfl rfl hd_X5_cell ⟨Nat.le_of_ble_eq_true rfl, Nat.le_of_ble_eq_true rfl⟩) [0, 1] rfl rfl 0 rfl rfl rfl hl.1 rfl (Nat.le_of_ble_eq_true rfl) dX5_make_126 ⟨Nat.le_of_ble_eq_true rfl, Nat.le_of_ble_eq_true rfl⟩) [0, 1] [] [0, 1] rfl rfl rfl rfl (fun _ => rfl) rfl (fun _ H locs hP hD hS => ?_)
  refine lv_aload_n hx hb dX5_make_129 rfl (lv_at hl 2 rfl) ?_
  refine lv_iload_n hx hb dX5_make_130 rfl (lv_at hl 4 rfl) ?_
  refine lv_bipush (v := (7 : Int32)) hx hb dX5_make_131 (by decide) ?_
  obtain ⟨r26, hq27, hf⟩ := oB1_e hf
  refine xci (wr := []) (ws' := fun _ => [(a_this, .inr (5, [.ref a_cells, u_clauses_, .int count_, u_lettersOfA_, u_lettersOfB_])), (a_cells, .inl (cI, 320, .inl cells_23))]) hA hP hD hS (xrV (As := [.int x2_, .int (7 : Int32)]) (rest := [.int r24, .int (1 : Int32), .int (x5_1 + (7 : Int32)), .ref a_cells]) M hA hK hZ hP hD hS (c_X5_cell l G cI cJ cZ cO tS H.size a_this a_cells (u_clauses_) (.int count_) (u_lettersOfA_) (u_lettersOfB_) cells_23 x2_ (7 : Int32) r26 hq27) (cwV 2 hts gX5_make_X5_cell rfl rfl rfl hd_X5_cell ⟨Nat.le_of_ble_eq_true rfl, Nat.le_of_ble_eq_true rfl⟩) [0, 1] rfl rfl 0 rfl rfl rfl hl.1 rfl (Nat.le_of_ble_eq_true rfl) dX5_make_133 ⟨Nat.le_of_ble_eq_true rfl, Nat.le_of_ble_eq_true rfl⟩) [0, 1] [] [0, 1] rfl rfl rfl rfl (fun _ => rfl) rfl (fun _ H locs hP hD hS => ?_)
  refine va_mmax hx hb (hml.trans hl.1.symm) hown (hts _ mm_X5_make_42.1) (hts _ mm_X5_make_42.2.1) (hts _ mm_X5_make_42.2.2.1) (hts _ mm_X5_make_42.2.2.2) (Nat.le_of_ble_eq_true rfl) (Nat.le_of_ble_eq_true rfl) (Nat.le_of_ble_eq_true rfl) (Nat.le_of_ble_eq_true rfl) dX5_make_136 ?_
  refine lv_iadd hx hb dX5_make_139 ?_
  obtain ⟨j28, hj28, hij28, hf⟩ := oA_e hf
  obtain ⟨cells_29, ecells_29, hf⟩ := oL_e hf
  refine xiast M hK hP hD hS 1 0 rfl rfl hj28 hij28 ecells_29 [(a_this, .inr (5, [.ref a_cells, u_clauses_, .int count_, u_lettersOfA_, u_lettersOfB_])), (a_cells, .inl (cI, 320, .inl cells_29))] rfl dX5_make_140 (fun H locs hP hD hS => ?_)
  refine lv_aload_n hx hb dX5_make_141 rfl (lv_at hl 2 rfl) ?_
  refine lv_dup hx hb dX5_make_142 rfl ?_
  refine xget M (C := RX5) (T := TX5) (N := 5) (ci := 5) (v := .int count_) uw_X5_make_X5 hK hP 0 rfl rfl 2 (by decide) fl_X5_make_15 rfl rfl dX5_make_143 ?_
  refine lv_iconst (v := (1 : Int32)) hx hb dX5_make_146 (by decide) ?_
  refine lv_iadd hx hb dX5_make_147 ?_
  obtain ⟨count_30, ecount_30, hf⟩ := oL_e hf
  refine xtopi ecount_30 ?_
  refine xput M (C := RX5) (T := TX5) (N := 5) (ci := 5) (v := .int count_30) uw_X5_make_X5 tyX5 tyX5_ok nmX5 hK hP hD hS 0 rfl rfl 2 (by decide) fl_X5_make_15 rfl rfl rfl rfl (Nat.le_of_ble_eq_true rfl) [(a_this, .inr (5, [.ref a_cells, u_clauses_, .int count_30, u_lettersOfA_, u_lettersOfB_])), (a_cells, .inl (cI, 320, .inl cells_29))] rfl dX5_make_148 (fun H locs hP hD hS => ?_)
  refine lv_iload hx hb dX5_make_151 (lv_at hl 1 rfl) ?_
  exact hR _ _ _ hf _ _ _ _ dX5_make_153 hP hD hS
set_option maxHeartbeats 4000000 in
set_option maxRecDepth 100000 in
theorem c_X5_make (l : Launch) (G : va_G) (cI cJ cZ cO : ClassId) (tS sz : Nat) (a_this : Nat) (a_cells : Nat) (u_clauses_ : Value) (u_lettersOfA_ : Value) (u_lettersOfB_ : Value) (count_ : Int32) (cells_ : (Nat → Int32)) (x1_ : Int32) (x2_ : Int32) (x3_ : Int32) (v_ : Int32) (o_cells_ : (Nat → Int32)) (o_count_ : Int32) (hf : f_X5_make count_ cells_ x1_ x2_ x3_ = some (v_, o_cells_, o_count_)) : Met l yX5_make wsX5_make ({ frames := 2, cells := 0, slots := 0, locals := 46 } : Room) (xPre G (xTY cI cJ cZ cO) tS [(a_this, .inr (5, [.ref a_cells, u_clauses_, .int count_, u_lettersOfA_, u_lettersOfB_])), (a_cells, .inl (cI, 320, .inl cells_))] sz [.ref a_this, .int x1_, .int x2_, .int x3_]) (xQi G [(a_this, .inr (5, [.ref a_cells, u_clauses_, .int count_, u_lettersOfA_, u_lettersOfB_])), (a_cells, .inl (cI, 320, .inl cells_))] sz (fun _ : Unit => [(a_this, .inr (5, [.ref a_cells, u_clauses_, .int o_count_, u_lettersOfA_, u_lettersOfB_])), (a_cells, .inl (cI, 320, .inl o_cells_))]) v_) 0 0 (va_A [(a_this, .inr (5, [.ref a_cells, u_clauses_, .int count_, u_lettersOfA_, u_lettersOfB_])), (a_cells, .inl (cI, 320, .inl cells_))] sz) := by
  refine xMet (cc := cX5_make) (maxL := 6) (ret := (some .int)) (own := RX5) (by decide +kernel) rfl rfl (Nat.le_of_ble_eq_true rfl) rfl ?_
  intro p e s m below meth c ls M hr hlk hin hsz hA hK hZ hP hD hl
  refine w_X5_make_0 a_this a_cells u_clauses_ u_lettersOfA_ u_lettersOfB_ hA hK hZ M (v_, o_cells_, o_count_) (fun v_' o_cells_' o_count_' hres H locs ls pc hd hP hD hS => ?_) count_ cells_ x1_ x2_ x3_ hf hP hD va_S.rf hl
  cases hres
  exact xreti (W1 := fun _ : Unit => [(a_this, .inr (5, [.ref a_cells, u_clauses_, .int o_count_, u_lettersOfA_, u_lettersOfB_])), (a_cells, .inl (cI, 320, .inl o_cells_))]) M hr hlk () hP hD hS hd
/-! BetweenBoth$Steps.meeting(II)I -/
theorem hd_X5_meeting : yX5_meeting.cls = RX5 ∧ yX5_meeting.cls ≠ "java/lang/invoke/MethodHandle" ∧ yX5_meeting.cls ≠ "java/lang/invoke/VarHandle" ∧ (parseMethodDescriptor yX5_meeting.desc).map (fun d => d.parameters.length) = some 2 := by decide +kernel
def RT_X5_meeting (p : Program) (l : Launch) (e : Env) (s : State) (m : MethodId) (args : Array Value) (below : List Frame) (meth : Method) (c : Code) (Q : State → Prop) (A : Nat → Prop) (G : va_G) (cI cJ cZ cO : ClassId) (a_this : Nat) (a_cells : Nat) (u_clauses_ : Value) (u_count_ : Value) (u_lettersOfA_ : Value) (u_lettersOfB_ : Value) (cells_ : (Nat → Int32)) (res : Int32) : Prop := ∀ (v_ : Int32), some v_ = some res → ∀ (H : Heap) (locs : List Loc) (ls : Array Slot) (pc : Nat), decode cX5_meeting pc = .ok (.ireturn, 1) → va_P G vwCl [(a_this, .inr (5, [.ref a_cells, u_clauses_, u_count_, u_lettersOfA_, u_lettersOfB_])), (a_cells, .inl (cI, 320, .inl cells_))] H → va_D A [(a_this, .inr (5, [.ref a_cells, u_clauses_, u_count_, u_lettersOfA_, u_lettersOfB_])), (a_cells, .inl (cI, 320, .inl cells_))] → va_S A s.heap H locs → W p l e ({ frames := 1, cells := 0, slots := 0, locals := 22 } : Room) s m args below meth c H locs 0 0 Q (F0 m pc ls [.int v_])
set_option maxHeartbeats 4000000 in
set_option maxRecDepth 100000 in
theorem w_X5_meeting_0 {p : Program} {l : Launch} {e : Env} {s : State} {m : MethodId} {args : Array Value} {below : List Frame} {meth : Method} {c : Code} {Q : State → Prop} {A : Nat → Prop} {G : va_G} {cI cJ cZ cO : ClassId} {tS : Nat} (a_this : Nat) (a_cells : Nat) (u_clauses_ : Value) (u_count_ : Value) (u_lettersOfA_ : Value) (u_lettersOfB_ : Value) (cells_ : (Nat → Int32)) (hA : ∀ q : Nat, s.heap.size ≤ q → A q) (hK : va_K G vwCl (xTY cI cJ cZ cO) s) (hZ : xST tS A s) (M : CallFix p m c cX5_meeting 3 s args wsX5_meeting RX5) (res : Int32) (hR : RT_X5_meeting p l e s m args below meth c Q A G cI cJ cZ cO a_this a_cells u_clauses_ u_count_ u_lettersOfA_ u_lettersOfB_ cells_ res)  (x1_ : Int32) (x2_ : Int32) (hf : f_X5_meeting cells_ x1_ x2_ = some res) {H : Heap} {locs : List Loc} {ls : Array Slot} (hP : va_P G vwCl [(a_this, .inr (5, [.ref a_cells, u_clauses_, u_count_, u_lettersOfA_, u_lettersOfB_])), (a_cells, .inl (cI, 320, .inl cells_))] H) (hD : va_D A [(a_this, .inr (5, [.ref a_cells, u_clauses_, u_count_, u_lettersOfA_, u_lettersOfB_])), (a_cells, .inl (cI, 320, .inl cells_))]) (hS : va_S A s.heap H locs) (hl : lv_has ls 3 [(0, .ref a_this), (1, .int x1_), (2, .int x2_)]) : W p l e ({ frames := 1, cells := 0, slots := 0, locals := 22 } : Room) s m args below meth c H locs 0 0 Q (F0 m 0 ls []) := by
  obtain ⟨hx, hb, hml, hown, hts⟩ := id M
  unfold f_X5_meeting at hf
  refine lv_aload_n hx hb dX5_meeting_0 rfl (lv_at hl 0 rfl) ?_
  refine lv_iload_n hx hb dX5_meeting_1 rfl (lv_at hl 1 rfl) ?_
  refine lv_iconst (v := (0 : Int32)) hx hb dX5_meeting_2 (by decide) ?_
  obtain ⟨r1, hq2, hf⟩ := oB1_e hf
  refine xci (wr := []) (ws' := fun _ => [(a_this, .inr (5, [.ref a_cells, u_clauses_, u_count_, u_lettersOfA_, u_lettersOfB_])), (a_cells, .inl (cI, 320, .inl cells_))]) hA hP hD hS (xrV (As := [.int x1_, .int (0 : Int32)]) (rest := []) M hA hK hZ hP hD hS (c_X5_cell l G cI cJ cZ cO tS H.size a_this a_cells (u_clauses_) (u_count_) (u_lettersOfA_) (u_lettersOfB_) cells_ x1_ (0 : Int32) r1 hq2) (cwV 2 hts gX5_meeting_X5_cell rfl rfl rfl hd_X5_cell ⟨Nat.le_of_ble_eq_true rfl, Nat.le_of_ble_eq_true rfl⟩) [0, 1] rfl rfl 0 rfl rfl rfl hl.1 rfl (Nat.le_of_ble_eq_true rfl) dX5_meeting_3 ⟨Nat.le_of_ble_eq_true rfl, Nat.le_of_ble_eq_true rfl⟩) [0, 1] [] [0, 1] rfl rfl rfl rfl (fun _ => rfl) rfl (fun _ H locs hP hD hS => ?_)
  refine lv_aload_n hx hb dX5_meeting_6 rfl (lv_at hl 0 rfl) ?_
  refine lv_iload_n hx hb dX5_meeting_7 rfl (lv_at hl 2 rfl) ?_
  refine lv_iconst (v := (1 : Int32)) hx hb dX5_meeting_8 (by decide) ?_
  obtain ⟨r3, hq4, hf⟩ := oB1_e hf
  refine xci (wr := []) (ws' := fun _ => [(a_this, .inr (5, [.ref a_cells, u_clauses_, u_count_, u_lettersOfA_, u_lettersOfB_])), (a_cells, .inl (cI, 320, .inl cells_))]) hA hP hD hS (xrV (As := [.int x2_, .int (1 : Int32)]) (rest := [.int r1]) M hA hK hZ hP hD hS (c_X5_cell l G cI cJ cZ cO tS H.size a_this a_cells (u_clauses_) (u_count_) (u_lettersOfA_) (u_lettersOfB_) cells_ x2_ (1 : Int32) r3 hq4) (cwV 2 hts gX5_meeting_X5_cell rfl rfl rfl hd_X5_cell ⟨Nat.le_of_ble_eq_true rfl, Nat.le_of_ble_eq_true rfl⟩) [0, 1] rfl rfl 0 rfl rfl rfl hl.1 rfl (Nat.le_of_ble_eq_true rfl) dX5_meeting_9 ⟨Nat.le_of_ble_eq_true rfl, Nat.le_of_ble_eq_true rfl⟩) [0, 1] [] [0, 1] rfl rfl rfl rfl (fun _ => rfl) rfl (fun _ H locs hP hD hS => ?_)
  refine lv_iand hx hb dX5_meeting_12 ?_
  refine lv_aload_n hx hb dX5_meeting_13 rfl (lv_at hl 0 rfl) ?_
  refine lv_iload_n hx hb dX5_meeting_14 rfl (lv_at hl 1 rfl) ?_
  refine lv_iconst (v := (1 : Int32)) hx hb dX5_meeting_15 (by decide) ?_
  obtain ⟨r5, hq6, hf⟩ := oB1_e hf
  refine xci (wr := []) (ws' := fun _ => [(a_this, .inr (5, [.ref a_cells, u_clauses_, u_count_, u_lettersOfA_, u_lettersOfB_])), (a_cells, .inl (cI, 320, .inl cells_))]) hA hP hD hS (xrV (As := [.int x1_, .int (1 : Int32)]) (rest := [.int (r1 &&& r3)]) M hA hK hZ hP hD hS (c_X5_cell l G cI cJ cZ cO tS H.size a_this a_cells (u_clauses_) (u_count_) (u_lettersOfA_) (u_lettersOfB_) cells_ x1_ (1 : Int32) r5 hq6) (cwV 2 hts gX5_meeting_X5_cell rfl rfl rfl hd_X5_cell ⟨Nat.le_of_ble_eq_true rfl, Nat.le_of_ble_eq_true rfl⟩) [0, 1] rfl rfl 0 rfl rfl rfl hl.1 rfl (Nat.le_of_ble_eq_true rfl) dX5_meeting_16 ⟨Nat.le_of_ble_eq_true rfl, Nat.le_of_ble_eq_true rfl⟩) [0, 1] [] [0, 1] rfl rfl rfl rfl (fun _ => rfl) rfl (fun _ H locs hP hD hS => ?_)
  refine lv_aload_n hx hb dX5_meeting_19 rfl (lv_at hl 0 rfl) ?_
  refine lv_iload_n hx hb dX5_meeting_20 rfl (lv_at hl 2 rfl) ?_
  refine lv_iconst (v := (0 : Int32)) hx hb dX5_meeting_21 (by decide) ?_
  obtain ⟨r7, hq8, hf⟩ := oB1_e hf
  refine xci (wr := []) (ws' := fun _ => [(a_this, .inr (5, [.ref a_cells, u_clauses_, u_count_, u_lettersOfA_, u_lettersOfB_])), (a_cells, .inl (cI, 320, .inl cells_))]) hA hP hD hS (xrV (As := [.int x2_, .int (0 : Int32)]) (rest := [.int r5, .int (r1 &&& r3)]) M hA hK hZ hP hD hS (c_X5_cell l G cI cJ cZ cO tS H.size a_this a_cells (u_clauses_) (u_count_) (u_lettersOfA_) (u_lettersOfB_) cells_ x2_ (0 : Int32) r7 hq8) (cwV 2 hts gX5_meeting_X5_cell rfl rfl rfl hd_X5_cell ⟨Nat.le_of_ble_eq_true rfl, Nat.le_of_ble_eq_true rfl⟩) [0, 1] rfl rfl 0 rfl rfl rfl hl.1 rfl (Nat.le_of_ble_eq_true rfl) dX5_meeting_22 ⟨Nat.le_of_ble_eq_true rfl, Nat.le_of_ble_eq_true rfl⟩) [0, 1] [] [0, 1] rfl rfl rfl rfl (fun _ => rfl) rfl (fun _ H locs hP hD hS => ?_)
  refine lv_iand hx hb dX5_meeting_25 ?_
  refine lv_ior hx hb dX5_meeting_26 ?_
  exact hR _ hf _ _ _ _ dX5_meeting_27 hP hD hS
set_option maxHeartbeats 4000000 in
set_option maxRecDepth 100000 in
theorem c_X5_meeting (l : Launch) (G : va_G) (cI cJ cZ cO : ClassId) (tS sz : Nat) (a_this : Nat) (a_cells : Nat) (u_clauses_ : Value) (u_count_ : Value) (u_lettersOfA_ : Value) (u_lettersOfB_ : Value) (cells_ : (Nat → Int32)) (x1_ : Int32) (x2_ : Int32) (v_ : Int32) (hf : f_X5_meeting cells_ x1_ x2_ = some v_) : Met l yX5_meeting wsX5_meeting ({ frames := 1, cells := 0, slots := 0, locals := 22 } : Room) (xPre G (xTY cI cJ cZ cO) tS [(a_this, .inr (5, [.ref a_cells, u_clauses_, u_count_, u_lettersOfA_, u_lettersOfB_])), (a_cells, .inl (cI, 320, .inl cells_))] sz [.ref a_this, .int x1_, .int x2_]) (xQi G [(a_this, .inr (5, [.ref a_cells, u_clauses_, u_count_, u_lettersOfA_, u_lettersOfB_])), (a_cells, .inl (cI, 320, .inl cells_))] sz (fun _ : Unit => [(a_this, .inr (5, [.ref a_cells, u_clauses_, u_count_, u_lettersOfA_, u_lettersOfB_])), (a_cells, .inl (cI, 320, .inl cells_))]) v_) 0 0 (va_A [(a_this, .inr (5, [.ref a_cells, u_clauses_, u_count_, u_lettersOfA_, u_lettersOfB_])), (a_cells, .inl (cI, 320, .inl cells_))] sz) := by
  refine xMet (cc := cX5_meeting) (maxL := 3) (ret := (some .int)) (own := RX5) (by decide +kernel) rfl rfl (Nat.le_of_ble_eq_true rfl) rfl ?_
  intro p e s m below meth c ls M hr hlk hin hsz hA hK hZ hP hD hl
  refine w_X5_meeting_0 a_this a_cells u_clauses_ u_count_ u_lettersOfA_ u_lettersOfB_ cells_ hA hK hZ M v_ (fun v_' hres H locs ls pc hd hP hD hS => ?_)  x1_ x2_ hf hP hD va_S.rf hl
  cases hres
  exact xreti (W1 := fun _ : Unit => [(a_this, .inr (5, [.ref a_cells, u_clauses_, u_count_, u_lettersOfA_, u_lettersOfB_])), (a_cells, .inl (cI, 320, .inl cells_))]) M hr hlk () hP hD hS hd
/-! BetweenBoth$Steps.isCovered(II)Z -/
theorem uw_X5_isCovered_X5 : ∀ w ∈ u_ws RX5 TX5 5, w ∈ wsX5_isCovered := by decide +kernel
theorem fl_X5_isCovered_15 : Cond.fieldLink RX5 15 "BetweenBoth$Steps" (TX5 2).2.1 (TX5 2).2.2.1 ∈ wsX5_isCovered := by decide +kernel
theorem hd_X5_isCovered : yX5_isCovered.cls = RX5 ∧ yX5_isCovered.cls ≠ "java/lang/invoke/MethodHandle" ∧ yX5_isCovered.cls ≠ "java/lang/invoke/VarHandle" ∧ (parseMethodDescriptor yX5_isCovered.desc).map (fun d => d.parameters.length) = some 2 := by decide +kernel
def RT_X5_isCovered (p : Program) (l : Launch) (e : Env) (s : State) (m : MethodId) (args : Array Value) (below : List Frame) (meth : Method) (c : Code) (Q : State → Prop) (A : Nat → Prop) (G : va_G) (cI cJ cZ cO : ClassId) (a_this : Nat) (a_cells : Nat) (u_clauses_ : Value) (u_lettersOfA_ : Value) (u_lettersOfB_ : Value) (count_ : Int32) (cells_ : (Nat → Int32)) (res : Int32) : Prop := ∀ (v_ : Int32), some v_ = some res → (v_ = 0 ∨ v_ = 1) → ∀ (H : Heap) (locs : List Loc) (ls : Array Slot) (pc : Nat), decode cX5_isCovered pc = .ok (.ireturn, 1) → va_P G vwCl [(a_this, .inr (5, [.ref a_cells, u_clauses_, .int count_, u_lettersOfA_, u_lettersOfB_])), (a_cells, .inl (cI, 320, .inl cells_))] H → va_D A [(a_this, .inr (5, [.ref a_cells, u_clauses_, .int count_, u_lettersOfA_, u_lettersOfB_])), (a_cells, .inl (cI, 320, .inl cells_))] → va_S A s.heap H locs → W p l e ({ frames := 1, cells := 0, slots := 0, locals := 22 } : Room) s m args below meth c H locs 0 0 Q (F0 m pc ls [.int v_])
set_option maxHeartbeats 4000000 in
set_option maxRecDepth 100000 in
theorem w_X5_isCovered_38 {p : Program} {l : Launch} {e : Env} {s : State} {m : MethodId} {args : Array Value} {below : List Frame} {meth : Method} {c : Code} {Q : State → Prop} {A : Nat → Prop} {G : va_G} {cI cJ cZ cO : ClassId} {tS : Nat} (a_this : Nat) (a_cells : Nat) (u_clauses_ : Value) (u_lettersOfA_ : Value) (u_lettersOfB_ : Value) (count_ : Int32) (cells_ : (Nat → Int32)) (hA : ∀ q : Nat, s.heap.size ≤ q → A q) (hK : va_K G vwCl (xTY cI cJ cZ cO) s) (hZ : xST tS A s) (M : CallFix p m c cX5_isCovered 4 s args wsX5_isCovered RX5) (res : Int32) (hR : RT_X5_isCovered p l e s m args below meth c Q A G cI cJ cZ cO a_this a_cells u_clauses_ u_lettersOfA_ u_lettersOfB_ count_ cells_ res) (x1_ : Int32) (x2_ : Int32) (x3_ : Int32) (k2 : Int32 → Option (Int32)) (hk2 : ∀ (x3_ : Int32), k2 x3_ = some res → ∀ {H : Heap} {locs : List Loc} {ls : Array Slot}, va_P G vwCl [(a_this, .inr (5, [.ref a_cells, u_clauses_, .int count_, u_lettersOfA_, u_lettersOfB_])), (a_cells, .inl (cI, 320, .inl cells_))] H → va_D A [(a_this, .inr (5, [.ref a_cells, u_clauses_, .int count_, u_lettersOfA_, u_lettersOfB_])), (a_cells, .inl (cI, 320, .inl cells_))] → va_S A s.heap H locs → lv_has ls 4 [(0, .ref a_this), (1, .int x1_), (2, .int x2_), (3, .int x3_)] → W p l e ({ frames := 1, cells := 0, slots := 0, locals := 22 } : Room) s m args below meth c H locs 0 0 Q (F0 m 2 ls [])) (hf : f_X5_isCovered_38 x3_ k2 = some res) {H : Heap} {locs : List Loc} {ls : Array Slot} (hP : va_P G vwCl [(a_this, .inr (5, [.ref a_cells, u_clauses_, .int count_, u_lettersOfA_, u_lettersOfB_])), (a_cells, .inl (cI, 320, .inl cells_))] H) (hD : va_D A [(a_this, .inr (5, [.ref a_cells, u_clauses_, .int count_, u_lettersOfA_, u_lettersOfB_])), (a_cells, .inl (cI, 320, .inl cells_))]) (hS : va_S A s.heap H locs) (hl : lv_has ls 4 [(0, .ref a_this), (1, .int x1_), (2, .int x2_), (3, .int x3_)]) : W p l e ({ frames := 1, cells := 0, slots := 0, locals := 22 } : Room) s m args below meth c H locs 0 0 Q (F0 m 38 ls []) := by
  obtain ⟨hx, hb, hml, hown, hts⟩ := id M
  unfold f_X5_isCovered_38 at hf
  obtain ⟨x3_1, ex3_1, hf⟩ := oL_e hf
  refine lv_iinc (v := x3_1) (lv' := [(3, .int x3_1), (0, .ref a_this), (1, .int x1_), (2, .int x2_)]) hx hb dX5_isCovered_38 hl (k := 3) rfl (by rw [← ex3_1]; rfl) (by decide) rfl (fun ls hl => ?_)
  refine lv_goto (tgt := 2) hx hb dX5_isCovered_41 (by decide) ?_
  exact hk2 _ hf hP hD hS (lv_sub hl [1, 2, 3, 0] rfl)
set_option maxHeartbeats 4000000 in
set_option maxRecDepth 100000 in
theorem wb_X5_isCovered_2 {p : Program} {l : Launch} {e : Env} {s : State} {m : MethodId} {args : Array Value} {below : List Frame} {meth : Method} {c : Code} {Q : State → Prop} {A : Nat → Prop} {G : va_G} {cI cJ cZ cO : ClassId} {tS : Nat} (a_this : Nat) (a_cells : Nat) (u_clauses_ : Value) (u_lettersOfA_ : Value) (u_lettersOfB_ : Value) (count_ : Int32) (cells_ : (Nat → Int32)) (hA : ∀ q : Nat, s.heap.size ≤ q → A q) (hK : va_K G vwCl (xTY cI cJ cZ cO) s) (hZ : xST tS A s) (M : CallFix p m c cX5_isCovered 4 s args wsX5_isCovered RX5) (res : Int32) (hR : RT_X5_isCovered p l e s m args below meth c Q A G cI cJ cZ cO a_this a_cells u_clauses_ u_lettersOfA_ u_lettersOfB_ count_ cells_ res) (x1_ : Int32) (x2_ : Int32)  (k2 : Int32 → Option (Int32)) (hk2 : ∀ (x3_ : Int32), k2 x3_ = some res → ∀ {H : Heap} {locs : List Loc} {ls : Array Slot}, va_P G vwCl [(a_this, .inr (5, [.ref a_cells, u_clauses_, .int count_, u_lettersOfA_, u_lettersOfB_])), (a_cells, .inl (cI, 320, .inl cells_))] H → va_D A [(a_this, .inr (5, [.ref a_cells, u_clauses_, .int count_, u_lettersOfA_, u_lettersOfB_])), (a_cells, .inl (cI, 320, .inl cells_))] → va_S A s.heap H locs → lv_has ls 4 [(0, .ref a_this), (1, .int x1_), (2, .int x2_), (3, .int x3_)] → W p l e ({ frames := 1, cells := 0, slots := 0, locals := 22 } : Room) s m args below meth c H locs 0 0 Q (F0 m 2 ls [])) (x3_ : Int32) (hf : b_X5_isCovered_2 count_ cells_ x1_ x2_ k2 x3_ = some res) {H : Heap} {locs : List Loc} {ls : Array Slot} (hP : va_P G vwCl [(a_this, .inr (5, [.ref a_cells, u_clauses_, .int count_, u_lettersOfA_, u_lettersOfB_])), (a_cells, .inl (cI, 320, .inl cells_))] H) (hD : va_D A [(a_this, .inr (5, [.ref a_cells, u_clauses_, .int count_, u_lettersOfA_, u_lettersOfB_])), (a_cells, .inl (cI, 320, .inl cells_))]) (hS : va_S A s.heap H locs) (hl : lv_has ls 4 [(0, .ref a_this), (1, .int x1_), (2, .int x2_), (3, .int x3_)]) : W p l e ({ frames := 1, cells := 0, slots := 0, locals := 22 } : Room) s m args below meth c H locs 0 0 Q (F0 m 2 ls []) := by
  obtain ⟨hx, hb, hml, hown, hts⟩ := id M
  unfold b_X5_isCovered_2 at hf
  refine lv_iload_n hx hb dX5_isCovered_2 rfl (lv_at hl 3 rfl) ?_
  refine lv_aload_n hx hb dX5_isCovered_3 rfl (lv_at hl 0 rfl) ?_
  refine xget M (C := RX5) (T := TX5) (N := 5) (ci := 5) (v := .int count_) uw_X5_isCovered_X5 hK hP 0 rfl rfl 2 (by decide) fl_X5_isCovered_15 rfl rfl dX5_isCovered_4 ?_
  refine lv_icmp_ge (tgt := 44) hx hb dX5_isCovered_7 (by decide) (fun hc1 => ?_) (fun hc1 => ?_)
  · have hf := oI_t hc1 hf
    refine lv_iconst (v := (0 : Int32)) hx hb dX5_isCovered_44 (by decide) ?_
    exact hR _ hf (by decide) _ _ _ _ dX5_isCovered_45 hP hD hS
  · have hf := oI_f hc1 hf
    refine lv_aload_n hx hb dX5_isCovered_10 rfl (lv_at hl 0 rfl) ?_
    refine lv_iload_n hx hb dX5_isCovered_11 rfl (lv_at hl 3 rfl) ?_
    refine lv_iconst (v := (0 : Int32)) hx hb dX5_isCovered_12 (by decide) ?_
    obtain ⟨r2, hq3, hf⟩ := oB1_e hf
    refine xci (wr := []) (ws' := fun _ => [(a_this, .inr (5, [.ref a_cells, u_clauses_, .int count_, u_lettersOfA_, u_lettersOfB_])), (a_cells, .inl (cI, 320, .inl cells_))]) hA hP hD hS (xrV (As := [.int x3_, .int (0 : Int32)]) (rest := []) M hA hK hZ hP hD hS (c_X5_cell l G cI cJ cZ cO tS H.size a_this a_cells (u_clauses_) (.int count_) (u_lettersOfA_) (u_lettersOfB_) cells_ x3_ (0 : Int32) r2 hq3) (cwV 2 hts gX5_isCovered_X5_cell rfl rfl rfl hd_X5_cell ⟨Nat.le_of_ble_eq_true rfl, Nat.le_of_ble_eq_true rfl⟩) [0, 1] rfl rfl 0 rfl rfl rfl hl.1 rfl (Nat.le_of_ble_eq_true rfl) dX5_isCovered_13 ⟨Nat.le_of_ble_eq_true rfl, Nat.le_of_ble_eq_true rfl⟩) [0, 1] [] [0, 1] rfl rfl rfl rfl (fun _ => rfl) rfl (fun _ H locs hP hD hS => ?_)
    refine lv_iload_n hx hb dX5_isCovered_16 rfl (lv_at hl 1 rfl) ?_
    refine lv_iconst (v := (-1 : Int32)) hx hb dX5_isCovered_17 (by decide) ?_
    refine lv_ixor hx hb dX5_isCovered_18 ?_
    refine lv_iand hx hb dX5_isCovered_19 ?_
    refine lv_if_ne (tgt := 38) hx hb dX5_isCovered_20 (by decide) (fun hc4 => ?_) (fun hc4 => ?_)
    · have hf := oI_f hc4 hf
      exact w_X5_isCovered_38 a_this a_cells u_clauses_ u_lettersOfA_ u_lettersOfB_ count_ cells_ hA hK hZ M res hR x1_ x2_ x3_ k2 hk2 hf hP hD hS (lv_sub hl [0, 1, 2, 3] rfl)
    · have hf := oI_t hc4 hf
      refine lv_aload_n hx hb dX5_isCovered_23 rfl (lv_at hl 0 rfl) ?_
      refine lv_iload_n hx hb dX5_isCovered_24 rfl (lv_at hl 3 rfl) ?_
      refine lv_iconst (v := (1 : Int32)) hx hb dX5_isCovered_25 (by decide) ?_
      obtain ⟨r5, hq6, hf⟩ := oB1_e hf
      refine xci (wr := []) (ws' := fun _ => [(a_this, .inr (5, [.ref a_cells, u_clauses_, .int count_, u_lettersOfA_, u_lettersOfB_])), (a_cells, .inl (cI, 320, .inl cells_))]) hA hP hD hS (xrV (As := [.int x3_, .int (1 : Int32)]) (rest := []) M hA hK hZ hP hD hS (c_X5_cell l G cI cJ cZ cO tS H.size a_this a_cells (u_clauses_) (.int count_) (u_lettersOfA_) (u_lettersOfB_) cells_ x3_ (1 : Int32) r5 hq6) (cwV 2 hts gX5_isCovered_X5_cell rfl rfl rfl hd_X5_cell ⟨Nat.le_of_ble_eq_true rfl, Nat.le_of_ble_eq_true rfl⟩) [0, 1] rfl rfl 0 rfl rfl rfl hl.1 rfl (Nat.le_of_ble_eq_true rfl) dX5_isCovered_26 ⟨Nat.le_of_ble_eq_true rfl, Nat.le_of_ble_eq_true rfl⟩) [0, 1] [] [0, 1] rfl rfl rfl rfl (fun _ => rfl) rfl (fun _ H locs hP hD hS => ?_)
      refine lv_iload_n hx hb dX5_isCovered_29 rfl (lv_at hl 2 rfl) ?_
      refine lv_iconst (v := (-1 : Int32)) hx hb dX5_isCovered_30 (by decide) ?_
      refine lv_ixor hx hb dX5_isCovered_31 ?_
      refine lv_iand hx hb dX5_isCovered_32 ?_
      refine lv_if_ne (tgt := 38) hx hb dX5_isCovered_33 (by decide) (fun hc7 => ?_) (fun hc7 => ?_)
      · have hf := oI_f hc7 hf
        exact w_X5_isCovered_38 a_this a_cells u_clauses_ u_lettersOfA_ u_lettersOfB_ count_ cells_ hA hK hZ M res hR x1_ x2_ x3_ k2 hk2 hf hP hD hS (lv_sub hl [0, 1, 2, 3] rfl)
      · have hf := oI_t hc7 hf
        refine lv_iconst (v := (1 : Int32)) hx hb dX5_isCovered_36 (by decide) ?_
        exact hR _ hf (by decide) _ _ _ _ dX5_isCovered_37 hP hD hS
set_option maxHeartbeats 4000000 in
set_option maxRecDepth 100000 in
theorem wl_X5_isCovered_2 {p : Program} {l : Launch} {e : Env} {s : State} {m : MethodId} {args : Array Value} {below : List Frame} {meth : Method} {c : Code} {Q : State → Prop} {A : Nat → Prop} {G : va_G} {cI cJ cZ cO : ClassId} {tS : Nat} (a_this : Nat) (a_cells : Nat) (u_clauses_ : Value) (u_lettersOfA_ : Value) (u_lettersOfB_ : Value) (count_ : Int32) (cells_ : (Nat → Int32)) (hA : ∀ q : Nat, s.heap.size ≤ q → A q) (hK : va_K G vwCl (xTY cI cJ cZ cO) s) (hZ : xST tS A s) (M : CallFix p m c cX5_isCovered 4 s args wsX5_isCovered RX5) (res : Int32) (hR : RT_X5_isCovered p l e s m args below meth c Q A G cI cJ cZ cO a_this a_cells u_clauses_ u_lettersOfA_ u_lettersOfB_ count_ cells_ res) (x1_ : Int32) (x2_ : Int32)  (n : Nat) : ∀ (x3_ : Int32), oF (fun k z => b_X5_isCovered_2 count_ cells_ x1_ x2_ k z) n x3_ = some res → ∀ {H : Heap} {locs : List Loc} {ls : Array Slot}, va_P G vwCl [(a_this, .inr (5, [.ref a_cells, u_clauses_, .int count_, u_lettersOfA_, u_lettersOfB_])), (a_cells, .inl (cI, 320, .inl cells_))] H → va_D A [(a_this, .inr (5, [.ref a_cells, u_clauses_, .int count_, u_lettersOfA_, u_lettersOfB_])), (a_cells, .inl (cI, 320, .inl cells_))] → va_S A s.heap H locs → lv_has ls 4 [(0, .ref a_this), (1, .int x1_), (2, .int x2_), (3, .int x3_)] → W p l e ({ frames := 1, cells := 0, slots := 0, locals := 22 } : Room) s m args below meth c H locs 0 0 Q (F0 m 2 ls []) := by
  induction n with
  | zero => intro x3_ hf; cases hf
  | succ n ih =>
    intro x3_ hf H locs ls hP hD hS hl
    exact wb_X5_isCovered_2 a_this a_cells u_clauses_ u_lettersOfA_ u_lettersOfB_ count_ cells_ hA hK hZ M res hR x1_ x2_  _ ih x3_ hf hP hD hS hl
set_option maxHeartbeats 4000000 in
set_option maxRecDepth 100000 in
theorem w_X5_isCovered_0 {p : Program} {l : Launch} {e : Env} {s : State} {m : MethodId} {args : Array Value} {below : List Frame} {meth : Method} {c : Code} {Q : State → Prop} {A : Nat → Prop} {G : va_G} {cI cJ cZ cO : ClassId} {tS : Nat} (a_this : Nat) (a_cells : Nat) (u_clauses_ : Value) (u_lettersOfA_ : Value) (u_lettersOfB_ : Value) (count_ : Int32) (cells_ : (Nat → Int32)) (hA : ∀ q : Nat, s.heap.size ≤ q → A q) (hK : va_K G vwCl (xTY cI cJ cZ cO) s) (hZ : xST tS A s) (M : CallFix p m c cX5_isCovered 4 s args wsX5_isCovered RX5) (res : Int32) (hR : RT_X5_isCovered p l e s m args below meth c Q A G cI cJ cZ cO a_this a_cells u_clauses_ u_lettersOfA_ u_lettersOfB_ count_ cells_ res)  (x1_ : Int32) (x2_ : Int32) (hf : f_X5_isCovered count_ cells_ x1_ x2_ = some res) {H : Heap} {locs : List Loc} {ls : Array Slot} (hP : va_P G vwCl [(a_this, .inr (5, [.ref a_cells, u_clauses_, .int count_, u_lettersOfA_, u_lettersOfB_])), (a_cells, .inl (cI, 320, .inl cells_))] H) (hD : va_D A [(a_this, .inr (5, [.ref a_cells, u_clauses_, .int count_, u_lettersOfA_, u_lettersOfB_])), (a_cells, .inl (cI, 320, .inl cells_))]) (hS : va_S A s.heap H locs) (hl : lv_has ls 4 [(0, .ref a_this), (1, .int x1_), (2, .int x2_)]) : W p l e ({ frames := 1, cells := 0, slots := 0, locals := 22 } : Room) s m args below meth c H locs 0 0 Q (F0 m 0 ls []) := by
  obtain ⟨hx, hb, hml, hown, hts⟩ := id M
  unfold f_X5_isCovered at hf
  refine lv_iconst (v := (0 : Int32)) hx hb dX5_isCovered_0 (by decide) ?_
  refine lv_istore_n (lv' := [(3, .int (0 : Int32)), (0, .ref a_this), (1, .int x1_), (2, .int x2_)]) hx hb dX5_isCovered_1 rfl hl (by decide) rfl (fun ls hl => ?_)
  exact wl_X5_isCovered_2 a_this a_cells u_clauses_ u_lettersOfA_ u_lettersOfB_ count_ cells_ hA hK hZ M res hR x1_ x2_  xN (0 : Int32) hf hP hD hS (lv_sub hl [1, 2, 3, 0] rfl)
set_option maxHeartbeats 4000000 in
set_option maxRecDepth 100000 in
theorem c_X5_isCovered (l : Launch) (G : va_G) (cI cJ cZ cO : ClassId) (tS sz : Nat) (a_this : Nat) (a_cells : Nat) (u_clauses_ : Value) (u_lettersOfA_ : Value) (u_lettersOfB_ : Value) (count_ : Int32) (cells_ : (Nat → Int32)) (x1_ : Int32) (x2_ : Int32) (v_ : Int32) (hf : f_X5_isCovered count_ cells_ x1_ x2_ = some v_) : Met l yX5_isCovered wsX5_isCovered ({ frames := 1, cells := 0, slots := 0, locals := 22 } : Room) (xPre G (xTY cI cJ cZ cO) tS [(a_this, .inr (5, [.ref a_cells, u_clauses_, .int count_, u_lettersOfA_, u_lettersOfB_])), (a_cells, .inl (cI, 320, .inl cells_))] sz [.ref a_this, .int x1_, .int x2_]) (xQi G [(a_this, .inr (5, [.ref a_cells, u_clauses_, .int count_, u_lettersOfA_, u_lettersOfB_])), (a_cells, .inl (cI, 320, .inl cells_))] sz (fun _ : Unit => [(a_this, .inr (5, [.ref a_cells, u_clauses_, .int count_, u_lettersOfA_, u_lettersOfB_])), (a_cells, .inl (cI, 320, .inl cells_))]) v_) 0 0 (va_A [(a_this, .inr (5, [.ref a_cells, u_clauses_, .int count_, u_lettersOfA_, u_lettersOfB_])), (a_cells, .inl (cI, 320, .inl cells_))] sz) := by
  refine xMet (cc := cX5_isCovered) (maxL := 4) (ret := (some .boolean)) (own := RX5) (by decide +kernel) rfl rfl (Nat.le_of_ble_eq_true rfl) rfl ?_
  intro p e s m below meth c ls M hr hlk hin hsz hA hK hZ hP hD hl
  refine w_X5_isCovered_0 a_this a_cells u_clauses_ u_lettersOfA_ u_lettersOfB_ count_ cells_ hA hK hZ M v_ (fun v_' hres hz H locs ls pc hd hP hD hS => ?_)  x1_ x2_ hf hP hD va_S.rf hl
  cases hres
  exact xretz (W1 := fun _ : Unit => [(a_this, .inr (5, [.ref a_cells, u_clauses_, .int count_, u_lettersOfA_, u_lettersOfB_])), (a_cells, .inl (cI, 320, .inl cells_))]) M hr hlk hz () hP hD hS hd
/-! BetweenBoth$Steps.isEmpty(I)Z -/
theorem hd_X5_isEmpty : yX5_isEmpty.cls = RX5 ∧ yX5_isEmpty.cls ≠ "java/lang/invoke/MethodHandle" ∧ yX5_isEmpty.cls ≠ "java/lang/invoke/VarHandle" ∧ (parseMethodDescriptor yX5_isEmpty.desc).map (fun d => d.parameters.length) = some 1 := by decide +kernel
def RT_X5_isEmpty (p : Program) (l : Launch) (e : Env) (s : State) (m : MethodId) (args : Array Value) (below : List Frame) (meth : Method) (c : Code) (Q : State → Prop) (A : Nat → Prop) (G : va_G) (cI cJ cZ cO : ClassId) (a_this : Nat) (a_cells : Nat) (u_clauses_ : Value) (u_count_ : Value) (u_lettersOfA_ : Value) (u_lettersOfB_ : Value) (cells_ : (Nat → Int32)) (res : Int32) : Prop := ∀ (v_ : Int32), some v_ = some res → (v_ = 0 ∨ v_ = 1) → ∀ (H : Heap) (locs : List Loc) (ls : Array Slot) (pc : Nat), decode cX5_isEmpty pc = .ok (.ireturn, 1) → va_P G vwCl [(a_this, .inr (5, [.ref a_cells, u_clauses_, u_count_, u_lettersOfA_, u_lettersOfB_])), (a_cells, .inl (cI, 320, .inl cells_))] H → va_D A [(a_this, .inr (5, [.ref a_cells, u_clauses_, u_count_, u_lettersOfA_, u_lettersOfB_])), (a_cells, .inl (cI, 320, .inl cells_))] → va_S A s.heap H locs → W p l e ({ frames := 1, cells := 0, slots := 0, locals := 22 } : Room) s m args below meth c H locs 0 0 Q (F0 m pc ls [.int v_])
set_option maxHeartbeats 4000000 in
set_option maxRecDepth 100000 in
theorem w_X5_isEmpty_0 {p : Program} {l : Launch} {e : Env} {s : State} {m : MethodId} {args : Array Value} {below : List Frame} {meth : Method} {c : Code} {Q : State → Prop} {A : Nat → Prop} {G : va_G} {cI cJ cZ cO : ClassId} {tS : Nat} (a_this : Nat) (a_cells : Nat) (u_clauses_ : Value) (u_count_ : Value) (u_lettersOfA_ : Value) (u_lettersOfB_ : Value) (cells_ : (Nat → Int32)) (hA : ∀ q : Nat, s.heap.size ≤ q → A q) (hK : va_K G vwCl (xTY cI cJ cZ cO) s) (hZ : xST tS A s) (M : CallFix p m c cX5_isEmpty 2 s args wsX5_isEmpty RX5) (res : Int32) (hR : RT_X5_isEmpty p l e s m args below meth c Q A G cI cJ cZ cO a_this a_cells u_clauses_ u_count_ u_lettersOfA_ u_lettersOfB_ cells_ res)  (x1_ : Int32) (hf : f_X5_isEmpty cells_ x1_ = some res) {H : Heap} {locs : List Loc} {ls : Array Slot} (hP : va_P G vwCl [(a_this, .inr (5, [.ref a_cells, u_clauses_, u_count_, u_lettersOfA_, u_lettersOfB_])), (a_cells, .inl (cI, 320, .inl cells_))] H) (hD : va_D A [(a_this, .inr (5, [.ref a_cells, u_clauses_, u_count_, u_lettersOfA_, u_lettersOfB_])), (a_cells, .inl (cI, 320, .inl cells_))]) (hS : va_S A s.heap H locs) (hl : lv_has ls 2 [(0, .ref a_this), (1, .int x1_)]) : W p l e ({ frames := 1, cells := 0, slots := 0, locals := 22 } : Room) s m args below meth c H locs 0 0 Q (F0 m 0 ls []) := by
  obtain ⟨hx, hb, hml, hown, hts⟩ := id M
  unfold f_X5_isEmpty at hf
  refine lv_aload_n hx hb dX5_isEmpty_0 rfl (lv_at hl 0 rfl) ?_
  refine lv_iload_n hx hb dX5_isEmpty_1 rfl (lv_at hl 1 rfl) ?_
  refine lv_iconst (v := (0 : Int32)) hx hb dX5_isEmpty_2 (by decide) ?_
  obtain ⟨r1, hq2, hf⟩ := oB1_e hf
  refine xci (wr := []) (ws' := fun _ => [(a_this, .inr (5, [.ref a_cells, u_clauses_, u_count_, u_lettersOfA_, u_lettersOfB_])), (a_cells, .inl (cI, 320, .inl cells_))]) hA hP hD hS (xrV (As := [.int x1_, .int (0 : Int32)]) (rest := []) M hA hK hZ hP hD hS (c_X5_cell l G cI cJ cZ cO tS H.size a_this a_cells (u_clauses_) (u_count_) (u_lettersOfA_) (u_lettersOfB_) cells_ x1_ (0 : Int32) r1 hq2) (cwV 2 hts gX5_isEmpty_X5_cell rfl rfl rfl hd_X5_cell ⟨Nat.le_of_ble_eq_true rfl, Nat.le_of_ble_eq_true rfl⟩) [0, 1] rfl rfl 0 rfl rfl rfl hl.1 rfl (Nat.le_of_ble_eq_true rfl) dX5_isEmpty_3 ⟨Nat.le_of_ble_eq_true rfl, Nat.le_of_ble_eq_true rfl⟩) [0, 1] [] [0, 1] rfl rfl rfl rfl (fun _ => rfl) rfl (fun _ H locs hP hD hS => ?_)
  refine lv_aload_n hx hb dX5_isEmpty_6 rfl (lv_at hl 0 rfl) ?_
  refine lv_iload_n hx hb dX5_isEmpty_7 rfl (lv_at hl 1 rfl) ?_
  refine lv_iconst (v := (1 : Int32)) hx hb dX5_isEmpty_8 (by decide) ?_
  obtain ⟨r3, hq4, hf⟩ := oB1_e hf
  refine xci (wr := []) (ws' := fun _ => [(a_this, .inr (5, [.ref a_cells, u_clauses_, u_count_, u_lettersOfA_, u_lettersOfB_])), (a_cells, .inl (cI, 320, .inl cells_))]) hA hP hD hS (xrV (As := [.int x1_, .int (1 : Int32)]) (rest := [.int r1]) M hA hK hZ hP hD hS (c_X5_cell l G cI cJ cZ cO tS H.size a_this a_cells (u_clauses_) (u_count_) (u_lettersOfA_) (u_lettersOfB_) cells_ x1_ (1 : Int32) r3 hq4) (cwV 2 hts gX5_isEmpty_X5_cell rfl rfl rfl hd_X5_cell ⟨Nat.le_of_ble_eq_true rfl, Nat.le_of_ble_eq_true rfl⟩) [0, 1] rfl rfl 0 rfl rfl rfl hl.1 rfl (Nat.le_of_ble_eq_true rfl) dX5_isEmpty_9 ⟨Nat.le_of_ble_eq_true rfl, Nat.le_of_ble_eq_true rfl⟩) [0, 1] [] [0, 1] rfl rfl rfl rfl (fun _ => rfl) rfl (fun _ H locs hP hD hS => ?_)
  refine lv_ior hx hb dX5_isEmpty_12 ?_
  refine lv_if_ne (tgt := 20) hx hb dX5_isEmpty_13 (by decide) (fun hc5 => ?_) (fun hc5 => ?_)
  · have hf := oI_f hc5 hf
    refine lv_iconst (v := (0 : Int32)) hx hb dX5_isEmpty_20 (by decide) ?_
    exact hR _ hf (by decide) _ _ _ _ dX5_isEmpty_21 hP hD hS
  · have hf := oI_t hc5 hf
    refine lv_iconst (v := (1 : Int32)) hx hb dX5_isEmpty_16 (by decide) ?_
    refine lv_goto (tgt := 21) hx hb dX5_isEmpty_17 (by decide) ?_
    exact hR _ hf (by decide) _ _ _ _ dX5_isEmpty_21 hP hD hS
set_option maxHeartbeats 4000000 in
set_option maxRecDepth 100000 in
theorem c_X5_isEmpty (l : Launch) (G : va_G) (cI cJ cZ cO : ClassId) (tS sz : Nat) (a_this : Nat) (a_cells : Nat) (u_clauses_ : Value) (u_count_ : Value) (u_lettersOfA_ : Value) (u_lettersOfB_ : Value) (cells_ : (Nat → Int32)) (x1_ : Int32) (v_ : Int32) (hf : f_X5_isEmpty cells_ x1_ = some v_) : Met l yX5_isEmpty wsX5_isEmpty ({ frames := 1, cells := 0, slots := 0, locals := 22 } : Room) (xPre G (xTY cI cJ cZ cO) tS [(a_this, .inr (5, [.ref a_cells, u_clauses_, u_count_, u_lettersOfA_, u_lettersOfB_])), (a_cells, .inl (cI, 320, .inl cells_))] sz [.ref a_this, .int x1_]) (xQi G [(a_this, .inr (5, [.ref a_cells, u_clauses_, u_count_, u_lettersOfA_, u_lettersOfB_])), (a_cells, .inl (cI, 320, .inl cells_))] sz (fun _ : Unit => [(a_this, .inr (5, [.ref a_cells, u_clauses_, u_count_, u_lettersOfA_, u_lettersOfB_])), (a_cells, .inl (cI, 320, .inl cells_))]) v_) 0 0 (va_A [(a_this, .inr (5, [.ref a_cells, u_clauses_, u_count_, u_lettersOfA_, u_lettersOfB_])), (a_cells, .inl (cI, 320, .inl cells_))] sz) := by
  refine xMet (cc := cX5_isEmpty) (maxL := 2) (ret := (some .boolean)) (own := RX5) (by decide +kernel) rfl rfl (Nat.le_of_ble_eq_true rfl) rfl ?_
  intro p e s m below meth c ls M hr hlk hin hsz hA hK hZ hP hD hl
  refine w_X5_isEmpty_0 a_this a_cells u_clauses_ u_count_ u_lettersOfA_ u_lettersOfB_ cells_ hA hK hZ M v_ (fun v_' hres hz H locs ls pc hd hP hD hS => ?_)  x1_ hf hP hD va_S.rf hl
  cases hres
  exact xretz (W1 := fun _ : Unit => [(a_this, .inr (5, [.ref a_cells, u_clauses_, u_count_, u_lettersOfA_, u_lettersOfB_])), (a_cells, .inl (cI, 320, .inl cells_))]) M hr hlk hz () hP hD hS hd
/-! BetweenBoth$Steps.makeIfNew(III)Z -/
theorem hd_X5_makeIfNew : yX5_makeIfNew.cls = RX5 ∧ yX5_makeIfNew.cls ≠ "java/lang/invoke/MethodHandle" ∧ yX5_makeIfNew.cls ≠ "java/lang/invoke/VarHandle" ∧ (parseMethodDescriptor yX5_makeIfNew.desc).map (fun d => d.parameters.length) = some 3 := by decide +kernel
def RT_X5_makeIfNew (p : Program) (l : Launch) (e : Env) (s : State) (m : MethodId) (args : Array Value) (below : List Frame) (meth : Method) (c : Code) (Q : State → Prop) (A : Nat → Prop) (G : va_G) (cI cJ cZ cO : ClassId) (a_this : Nat) (a_cells : Nat) (u_lettersOfA_ : Value) (u_lettersOfB_ : Value) (clauses_ : Int32) (res : Int32 × (Nat → Int32) × Int32) : Prop := ∀ (v_ : Int32) (o_cells_ : (Nat → Int32)) (o_count_ : Int32), some (v_, o_cells_, o_count_) = some res → (v_ = 0 ∨ v_ = 1) → ∀ (H : Heap) (locs : List Loc) (ls : Array Slot) (pc : Nat), decode cX5_makeIfNew pc = .ok (.ireturn, 1) → va_P G vwCl [(a_this, .inr (5, [.ref a_cells, .int clauses_, .int o_count_, u_lettersOfA_, u_lettersOfB_])), (a_cells, .inl (cI, 320, .inl o_cells_))] H → va_D A [(a_this, .inr (5, [.ref a_cells, .int clauses_, .int o_count_, u_lettersOfA_, u_lettersOfB_])), (a_cells, .inl (cI, 320, .inl o_cells_))] → va_S A s.heap H locs → W p l e ({ frames := 3, cells := 0, slots := 0, locals := 71 } : Room) s m args below meth c H locs 0 0 Q (F0 m pc ls [.int v_])
set_option maxHeartbeats 4000000 in
set_option maxRecDepth 100000 in
theorem w_X5_makeIfNew_56 {p : Program} {l : Launch} {e : Env} {s : State} {m : MethodId} {args : Array Value} {below : List Frame} {meth : Method} {c : Code} {Q : State → Prop} {A : Nat → Prop} {G : va_G} {cI cJ cZ cO : ClassId} {tS : Nat} (a_this : Nat) (a_cells : Nat) (u_lettersOfA_ : Value) (u_lettersOfB_ : Value) (clauses_ : Int32) (hA : ∀ q : Nat, s.heap.size ≤ q → A q) (hK : va_K G vwCl (xTY cI cJ cZ cO) s) (hZ : xST tS A s) (M : CallFix p m c cX5_makeIfNew 4 s args wsX5_makeIfNew RX5) (res : Int32 × (Nat → Int32) × Int32) (hR : RT_X5_makeIfNew p l e s m args below meth c Q A G cI cJ cZ cO a_this a_cells u_lettersOfA_ u_lettersOfB_ clauses_ res) (count_ : Int32) (cells_ : (Nat → Int32))  (hf : f_X5_makeIfNew_56 count_ cells_ = some res) {H : Heap} {locs : List Loc} {ls : Array Slot} (hP : va_P G vwCl [(a_this, .inr (5, [.ref a_cells, .int clauses_, .int count_, u_lettersOfA_, u_lettersOfB_])), (a_cells, .inl (cI, 320, .inl cells_))] H) (hD : va_D A [(a_this, .inr (5, [.ref a_cells, .int clauses_, .int count_, u_lettersOfA_, u_lettersOfB_])), (a_cells, .inl (cI, 320, .inl cells_))]) (hS : va_S A s.heap H locs) (hl : lv_has ls 4 []) : W p l e ({ frames := 3, cells := 0, slots := 0, locals := 71 } : Room) s m args below meth c H locs 0 0 Q (F0 m 56 ls []) := by
  obtain ⟨hx, hb, hml, hown, hts⟩ := id M
  unfold f_X5_makeIfNew_56 at hf
  refine lv_iconst (v := (1 : Int32)) hx hb dX5_makeIfNew_56 (by decide) ?_
  refine lv_goto (tgt := 61) hx hb dX5_makeIfNew_57 (by decide) ?_
  exact hR _ _ _ hf (by decide) _ _ _ _ dX5_makeIfNew_61 hP hD hS
set_option maxHeartbeats 4000000 in
set_option maxRecDepth 100000 in
theorem w_X5_makeIfNew_0 {p : Program} {l : Launch} {e : Env} {s : State} {m : MethodId} {args : Array Value} {below : List Frame} {meth : Method} {c : Code} {Q : State → Prop} {A : Nat → Prop} {G : va_G} {cI cJ cZ cO : ClassId} {tS : Nat} (a_this : Nat) (a_cells : Nat) (u_lettersOfA_ : Value) (u_lettersOfB_ : Value) (clauses_ : Int32) (hA : ∀ q : Nat, s.heap.size ≤ q → A q) (hK : va_K G vwCl (xTY cI cJ cZ cO) s) (hZ : xST tS A s) (M : CallFix p m c cX5_makeIfNew 4 s args wsX5_makeIfNew RX5) (res : Int32 × (Nat → Int32) × Int32) (hR : RT_X5_makeIfNew p l e s m args below meth c Q A G cI cJ cZ cO a_this a_cells u_lettersOfA_ u_lettersOfB_ clauses_ res) (count_ : Int32) (cells_ : (Nat → Int32)) (x1_ : Int32) (x2_ : Int32) (x3_ : Int32) (hf : f_X5_makeIfNew clauses_ count_ cells_ x1_ x2_ x3_ = some res) {H : Heap} {locs : List Loc} {ls : Array Slot} (hP : va_P G vwCl [(a_this, .inr (5, [.ref a_cells, .int clauses_, .int count_, u_lettersOfA_, u_lettersOfB_])), (a_cells, .inl (cI, 320, .inl cells_))] H) (hD : va_D A [(a_this, .inr (5, [.ref a_cells, .int clauses_, .int count_, u_lettersOfA_, u_lettersOfB_])), (a_cells, .inl (cI, 320, .inl cells_))]) (hS : va_S A s.heap H locs) (hl : lv_has ls 4 [(0, .ref a_this), (1, .int x1_), (2, .int x2_), (3, .int x3_)]) : W p l e ({ frames := 3, cells := 0, slots := 0, locals := 71 } : Room) s m args below meth c H locs 0 0 Q (F0 m 0 ls []) := by
  obtain ⟨hx, hb, hml, hown, hts⟩ := id M
  unfold f_X5_makeIfNew at hf
  refine lv_aload_n hx hb dX5_makeIfNew_0 rfl (lv_at hl 0 rfl) ?_
  refine lv_iload_n hx hb dX5_makeIfNew_1 rfl (lv_at hl 1 rfl) ?_
  refine lv_iload_n hx hb dX5_makeIfNew_2 rfl (lv_at hl 2 rfl) ?_
  refine lv_iload_n hx hb dX5_makeIfNew_3 rfl (lv_at hl 3 rfl) ?_
  obtain ⟨r1, hq2, hf⟩ := oB1_e hf
  refine xci (wr := []) (ws' := fun _ => [(a_this, .inr (5, [.ref a_cells, .int clauses_, .int count_, u_lettersOfA_, u_lettersOfB_])), (a_cells, .inl (cI, 320, .inl cells_))]) hA hP hD hS (xrV (As := [.int x1_, .int x2_, .int x3_]) (rest := []) M hA hK hZ hP hD hS (c_X5_canMake l G cI cJ cZ cO tS H.size a_this a_cells (.int clauses_) (.int count_) (u_lettersOfA_) (u_lettersOfB_) cells_ x1_ x2_ x3_ r1 hq2) (cwV 3 hts gX5_makeIfNew_X5_canMake rfl rfl rfl hd_X5_canMake ⟨Nat.le_of_ble_eq_true rfl, Nat.le_of_ble_eq_true rfl⟩) [0, 1] rfl rfl 0 rfl rfl rfl hl.1 rfl (Nat.le_of_ble_eq_true rfl) dX5_makeIfNew_4 ⟨Nat.le_of_ble_eq_true rfl, Nat.le_of_ble_eq_true rfl⟩) [0, 1] [] [0, 1] rfl rfl rfl rfl (fun _ => rfl) rfl (fun _ H locs hP hD hS => ?_)
  refine lv_if_eq (tgt := 33) hx hb dX5_makeIfNew_7 (by decide) (fun hc3 => ?_) (fun hc3 => ?_)
  · have hf := oI_t hc3 hf
    refine lv_iconst (v := (0 : Int32)) hx hb dX5_makeIfNew_33 (by decide) ?_
    exact hR _ _ _ hf (by decide) _ _ _ _ dX5_makeIfNew_34 hP hD hS
  · have hf := oI_f hc3 hf
    refine lv_aload_n hx hb dX5_makeIfNew_10 rfl (lv_at hl 0 rfl) ?_
    refine lv_aload_n hx hb dX5_makeIfNew_11 rfl (lv_at hl 0 rfl) ?_
    refine lv_iload_n hx hb dX5_makeIfNew_12 rfl (lv_at hl 1 rfl) ?_
    refine lv_iload_n hx hb dX5_makeIfNew_13 rfl (lv_at hl 2 rfl) ?_
    refine lv_iconst (v := (0 : Int32)) hx hb dX5_makeIfNew_14 (by decide) ?_
    refine lv_iload_n hx hb dX5_makeIfNew_15 rfl (lv_at hl 3 rfl) ?_
    obtain ⟨r4, hq5, hf⟩ := oB1_e hf
    refine xci (wr := []) (ws' := fun _ => [(a_this, .inr (5, [.ref a_cells, .int clauses_, .int count_, u_lettersOfA_, u_lettersOfB_])), (a_cells, .inl (cI, 320, .inl cells_))]) hA hP hD hS (xrV (As := [.int x1_, .int x2_, .int (0 : Int32), .int x3_]) (rest := [.ref a_this]) M hA hK hZ hP hD hS (c_X5_joined l G cI cJ cZ cO tS H.size a_this a_cells (.int clauses_) (.int count_) (u_lettersOfA_) (u_lettersOfB_) cells_ x1_ x2_ (0 : Int32) x3_ r4 hq5) (cwV 4 hts gX5_makeIfNew_X5_joined rfl rfl rfl hd_X5_joined ⟨Nat.le_of_ble_eq_true rfl, Nat.le_of_ble_eq_true rfl⟩) [0, 1] rfl rfl 0 rfl rfl rfl hl.1 rfl (Nat.le_of_ble_eq_true rfl) dX5_makeIfNew_16 ⟨Nat.le_of_ble_eq_true rfl, Nat.le_of_ble_eq_true rfl⟩) [0, 1] [] [0, 1] rfl rfl rfl rfl (fun _ => rfl) rfl (fun _ H locs hP hD hS => ?_)
    refine lv_aload_n hx hb dX5_makeIfNew_19 rfl (lv_at hl 0 rfl) ?_
    refine lv_iload_n hx hb dX5_makeIfNew_20 rfl (lv_at hl 1 rfl) ?_
    refine lv_iload_n hx hb dX5_makeIfNew_21 rfl (lv_at hl 2 rfl) ?_
    refine lv_iconst (v := (1 : Int32)) hx hb dX5_makeIfNew_22 (by decide) ?_
    refine lv_iload_n hx hb dX5_makeIfNew_23 rfl (lv_at hl 3 rfl) ?_
    obtain ⟨r6, hq7, hf⟩ := oB1_e hf
    refine xci (wr := []) (ws' := fun _ => [(a_this, .inr (5, [.ref a_cells, .int clauses_, .int count_, u_lettersOfA_, u_lettersOfB_])), (a_cells, .inl (cI, 320, .inl cells_))]) hA hP hD hS (xrV (As := [.int x1_, .int x2_, .int (1 : Int32), .int x3_]) (rest := [.int r4, .ref a_this]) M hA hK hZ hP hD hS (c_X5_joined l G cI cJ cZ cO tS H.size a_this a_cells (.int clauses_) (.int count_) (u_lettersOfA_) (u_lettersOfB_) cells_ x1_ x2_ (1 : Int32) x3_ r6 hq7) (cwV 4 hts gX5_makeIfNew_X5_joined rfl rfl rfl hd_X5_joined ⟨Nat.le_of_ble_eq_true rfl, Nat.le_of_ble_eq_true rfl⟩) [0, 1] rfl rfl 0 rfl rfl rfl hl.1 rfl (Nat.le_of_ble_eq_true rfl) dX5_makeIfNew_24 ⟨Nat.le_of_ble_eq_true rfl, Nat.le_of_ble_eq_true rfl⟩) [0, 1] [] [0, 1] rfl rfl rfl rfl (fun _ => rfl) rfl (fun _ H locs hP hD hS => ?_)
    obtain ⟨r8, hq9, hf⟩ := oB1_e hf
    refine xci (wr := []) (ws' := fun _ => [(a_this, .inr (5, [.ref a_cells, .int clauses_, .int count_, u_lettersOfA_, u_lettersOfB_])), (a_cells, .inl (cI, 320, .inl cells_))]) hA hP hD hS (xrV (As := [.int r4, .int r6]) (rest := []) M hA hK hZ hP hD hS (c_X5_isCovered l G cI cJ cZ cO tS H.size a_this a_cells (.int clauses_) (u_lettersOfA_) (u_lettersOfB_) count_ cells_ r4 r6 r8 hq9) (cwV 2 hts gX5_makeIfNew_X5_isCovered rfl rfl rfl hd_X5_isCovered ⟨Nat.le_of_ble_eq_true rfl, Nat.le_of_ble_eq_true rfl⟩) [0, 1] rfl rfl 0 rfl rfl rfl hl.1 rfl (Nat.le_of_ble_eq_true rfl) dX5_makeIfNew_27 ⟨Nat.le_of_ble_eq_true rfl, Nat.le_of_ble_eq_true rfl⟩) [0, 1] [] [0, 1] rfl rfl rfl rfl (fun _ => rfl) rfl (fun _ H locs hP hD hS => ?_)
    refine lv_if_eq (tgt := 35) hx hb dX5_makeIfNew_30 (by decide) (fun hc10 => ?_) (fun hc10 => ?_)
    · have hf := oI_t hc10 hf
      refine lv_aload_n hx hb dX5_makeIfNew_35 rfl (lv_at hl 0 rfl) ?_
      refine lv_aload_n hx hb dX5_makeIfNew_36 rfl (lv_at hl 0 rfl) ?_
      refine lv_iload_n hx hb dX5_makeIfNew_37 rfl (lv_at hl 1 rfl) ?_
      refine lv_iload_n hx hb dX5_makeIfNew_38 rfl (lv_at hl 2 rfl) ?_
      refine lv_iload_n hx hb dX5_makeIfNew_39 rfl (lv_at hl 3 rfl) ?_
      obtain ⟨r11, cells_12, count_13, hq14, hf⟩ := oB3_e hf
      refine xci (wr := []) (ws' := fun _ => [(a_this, .inr (5, [.ref a_cells, .int clauses_, .int count_13, u_lettersOfA_, u_lettersOfB_])), (a_cells, .inl (cI, 320, .inl cells_12))]) hA hP hD hS (xrV (As := [.int x1_, .int x2_, .int x3_]) (rest := [.ref a_this]) M hA hK hZ hP hD hS (c_X5_make l G cI cJ cZ cO tS H.size a_this a_cells (.int clauses_) (u_lettersOfA_) (u_lettersOfB_) count_ cells_ x1_ x2_ x3_ r11 cells_12 count_13 hq14) (cwV 3 hts gX5_makeIfNew_X5_make rfl rfl rfl hd_X5_make ⟨Nat.le_of_ble_eq_true rfl, Nat.le_of_ble_eq_true rfl⟩) [0, 1] rfl rfl 0 rfl rfl rfl hl.1 rfl (Nat.le_of_ble_eq_true rfl) dX5_makeIfNew_40 ⟨Nat.le_of_ble_eq_true rfl, Nat.le_of_ble_eq_true rfl⟩) [0, 1] [] [0, 1] rfl rfl rfl rfl (fun _ => rfl) rfl (fun _ H locs hP hD hS => ?_)
      obtain ⟨r15, hq16, hf⟩ := oB1_e hf
      refine xci (wr := []) (ws' := fun _ => [(a_this, .inr (5, [.ref a_cells, .int clauses_, .int count_13, u_lettersOfA_, u_lettersOfB_])), (a_cells, .inl (cI, 320, .inl cells_12))]) hA hP hD hS (xrV (As := [.int r11]) (rest := []) M hA hK hZ hP hD hS (c_X5_isEmpty l G cI cJ cZ cO tS H.size a_this a_cells (.int clauses_) (.int count_13) (u_lettersOfA_) (u_lettersOfB_) cells_12 r11 r15 hq16) (cwV 1 hts gX5_makeIfNew_X5_isEmpty rfl rfl rfl hd_X5_isEmpty ⟨Nat.le_of_ble_eq_true rfl, Nat.le_of_ble_eq_true rfl⟩) [0, 1] rfl rfl 0 rfl rfl rfl hl.1 rfl (Nat.le_of_ble_eq_true rfl) dX5_makeIfNew_43 ⟨Nat.le_of_ble_eq_true rfl, Nat.le_of_ble_eq_true rfl⟩) [0, 1] [] [0, 1] rfl rfl rfl rfl (fun _ => rfl) rfl (fun _ H locs hP hD hS => ?_)
      refine lv_if_ne (tgt := 56) hx hb dX5_makeIfNew_46 (by decide) (fun hc17 => ?_) (fun hc17 => ?_)
      · have hf := oI_f hc17 hf
        exact w_X5_makeIfNew_56 a_this a_cells u_lettersOfA_ u_lettersOfB_ clauses_ hA hK hZ M res hR count_13 cells_12  hf hP hD hS (lv_sub hl [] rfl)
      · have hf := oI_t hc17 hf
        refine lv_aload_n hx hb dX5_makeIfNew_49 rfl (lv_at hl 0 rfl) ?_
        obtain ⟨r18, hq19, hf⟩ := oB1_e hf
        refine xci (wr := [(a_cells, .inl (cI, 320, .inl cells_12))]) (ws' := fun _ => [(a_this, .inr (5, [.ref a_cells, .int clauses_, .int count_13, u_lettersOfA_, u_lettersOfB_])), (a_cells, .inl (cI, 320, .inl cells_12))]) hA hP hD hS (xrV (As := []) (rest := []) M hA hK hZ hP hD hS (c_X5_noneMoreFits l G cI cJ cZ cO tS H.size a_this (.ref a_cells) (u_lettersOfA_) (u_lettersOfB_) clauses_ count_13 r18 hq19) (cwV 0 hts gX5_makeIfNew_X5_noneMoreFits rfl rfl rfl hd_X5_noneMoreFits ⟨Nat.le_of_ble_eq_true rfl, Nat.le_of_ble_eq_true rfl⟩) [0] rfl rfl 0 rfl rfl rfl hl.1 rfl (Nat.le_of_ble_eq_true rfl) dX5_makeIfNew_50 ⟨Nat.le_of_ble_eq_true rfl, Nat.le_of_ble_eq_true rfl⟩) [0] [1] [1, 0] rfl rfl rfl rfl (fun _ => rfl) rfl (fun _ H locs hP hD hS => ?_)
        refine lv_if_eq (tgt := 60) hx hb dX5_makeIfNew_53 (by decide) (fun hc20 => ?_) (fun hc20 => ?_)
        · have hf := oI_t hc20 hf
          refine lv_iconst (v := (0 : Int32)) hx hb dX5_makeIfNew_60 (by decide) ?_
          exact hR _ _ _ hf (by decide) _ _ _ _ dX5_makeIfNew_61 hP hD hS
        · have hf := oI_f hc20 hf
          exact w_X5_makeIfNew_56 a_this a_cells u_lettersOfA_ u_lettersOfB_ clauses_ hA hK hZ M res hR count_13 cells_12  hf hP hD hS (lv_sub hl [] rfl)
    · have hf := oI_f hc10 hf
      refine lv_iconst (v := (0 : Int32)) hx hb dX5_makeIfNew_33 (by decide) ?_
      exact hR _ _ _ hf (by decide) _ _ _ _ dX5_makeIfNew_34 hP hD hS
set_option maxHeartbeats 4000000 in
set_option maxRecDepth 100000 in
theorem c_X5_makeIfNew (l : Launch) (G : va_G) (cI cJ cZ cO : ClassId) (tS sz : Nat) (a_this : Nat) (a_cells : Nat) (u_lettersOfA_ : Value) (u_lettersOfB_ : Value) (clauses_ : Int32) (count_ : Int32) (cells_ : (Nat → Int32)) (x1_ : Int32) (x2_ : Int32) (x3_ : Int32) (v_ : Int32) (o_cells_ : (Nat → Int32)) (o_count_ : Int32) (hf : f_X5_makeIfNew clauses_ count_ cells_ x1_ x2_ x3_ = some (v_, o_cells_, o_count_)) : Met l yX5_makeIfNew wsX5_makeIfNew ({ frames := 3, cells := 0, slots := 0, locals := 71 } : Room) (xPre G (xTY cI cJ cZ cO) tS [(a_this, .inr (5, [.ref a_cells, .int clauses_, .int count_, u_lettersOfA_, u_lettersOfB_])), (a_cells, .inl (cI, 320, .inl cells_))] sz [.ref a_this, .int x1_, .int x2_, .int x3_]) (xQi G [(a_this, .inr (5, [.ref a_cells, .int clauses_, .int count_, u_lettersOfA_, u_lettersOfB_])), (a_cells, .inl (cI, 320, .inl cells_))] sz (fun _ : Unit => [(a_this, .inr (5, [.ref a_cells, .int clauses_, .int o_count_, u_lettersOfA_, u_lettersOfB_])), (a_cells, .inl (cI, 320, .inl o_cells_))]) v_) 0 0 (va_A [(a_this, .inr (5, [.ref a_cells, .int clauses_, .int count_, u_lettersOfA_, u_lettersOfB_])), (a_cells, .inl (cI, 320, .inl cells_))] sz) := by
  refine xMet (cc := cX5_makeIfNew) (maxL := 4) (ret := (some .boolean)) (own := RX5) (by decide +kernel) rfl rfl (Nat.le_of_ble_eq_true rfl) rfl ?_
  intro p e s m below meth c ls M hr hlk hin hsz hA hK hZ hP hD hl
  refine w_X5_makeIfNew_0 a_this a_cells u_lettersOfA_ u_lettersOfB_ clauses_ hA hK hZ M (v_, o_cells_, o_count_) (fun v_' o_cells_' o_count_' hres hz H locs ls pc hd hP hD hS => ?_) count_ cells_ x1_ x2_ x3_ hf hP hD va_S.rf hl
  cases hres
  exact xretz (W1 := fun _ : Unit => [(a_this, .inr (5, [.ref a_cells, .int clauses_, .int o_count_, u_lettersOfA_, u_lettersOfB_])), (a_cells, .inl (cI, 320, .inl o_cells_))]) M hr hlk hz () hP hD hS hd
/-! BetweenBoth$Steps.makeOfBoth(II)Z -/
theorem hd_X5_makeOfBoth : yX5_makeOfBoth.cls = RX5 ∧ yX5_makeOfBoth.cls ≠ "java/lang/invoke/MethodHandle" ∧ yX5_makeOfBoth.cls ≠ "java/lang/invoke/VarHandle" ∧ (parseMethodDescriptor yX5_makeOfBoth.desc).map (fun d => d.parameters.length) = some 2 := by decide +kernel
def RT_X5_makeOfBoth (p : Program) (l : Launch) (e : Env) (s : State) (m : MethodId) (args : Array Value) (below : List Frame) (meth : Method) (c : Code) (Q : State → Prop) (A : Nat → Prop) (G : va_G) (cI cJ cZ cO : ClassId) (a_this : Nat) (a_cells : Nat) (u_lettersOfA_ : Value) (u_lettersOfB_ : Value) (clauses_ : Int32) (res : Int32 × (Nat → Int32) × Int32) : Prop := ∀ (v_ : Int32) (o_cells_ : (Nat → Int32)) (o_count_ : Int32), some (v_, o_cells_, o_count_) = some res → (v_ = 0 ∨ v_ = 1) → ∀ (H : Heap) (locs : List Loc) (ls : Array Slot) (pc : Nat), decode cX5_makeOfBoth pc = .ok (.ireturn, 1) → va_P G vwCl [(a_this, .inr (5, [.ref a_cells, .int clauses_, .int o_count_, u_lettersOfA_, u_lettersOfB_])), (a_cells, .inl (cI, 320, .inl o_cells_))] H → va_D A [(a_this, .inr (5, [.ref a_cells, .int clauses_, .int o_count_, u_lettersOfA_, u_lettersOfB_])), (a_cells, .inl (cI, 320, .inl o_cells_))] → va_S A s.heap H locs → W p l e ({ frames := 4, cells := 0, slots := 0, locals := 94 } : Room) s m args below meth c H locs 0 0 Q (F0 m pc ls [.int v_])
set_option maxHeartbeats 4000000 in
set_option maxRecDepth 100000 in
theorem wb_X5_makeOfBoth_2 {p : Program} {l : Launch} {e : Env} {s : State} {m : MethodId} {args : Array Value} {below : List Frame} {meth : Method} {c : Code} {Q : State → Prop} {A : Nat → Prop} {G : va_G} {cI cJ cZ cO : ClassId} {tS : Nat} (a_this : Nat) (a_cells : Nat) (u_lettersOfA_ : Value) (u_lettersOfB_ : Value) (clauses_ : Int32) (hA : ∀ q : Nat, s.heap.size ≤ q → A q) (hK : va_K G vwCl (xTY cI cJ cZ cO) s) (hZ : xST tS A s) (M : CallFix p m c cX5_makeOfBoth 4 s args wsX5_makeOfBoth RX5) (res : Int32 × (Nat → Int32) × Int32) (hR : RT_X5_makeOfBoth p l e s m args below meth c Q A G cI cJ cZ cO a_this a_cells u_lettersOfA_ u_lettersOfB_ clauses_ res) (x1_ : Int32) (x2_ : Int32)  (k2 : (Int32 × (Nat → Int32) × Int32) → Option (Int32 × (Nat → Int32) × Int32)) (hk2 : ∀ (count_ : Int32) (cells_ : (Nat → Int32)) (x3_ : Int32), k2 (count_, cells_, x3_) = some res → ∀ {H : Heap} {locs : List Loc} {ls : Array Slot}, va_P G vwCl [(a_this, .inr (5, [.ref a_cells, .int clauses_, .int count_, u_lettersOfA_, u_lettersOfB_])), (a_cells, .inl (cI, 320, .inl cells_))] H → va_D A [(a_this, .inr (5, [.ref a_cells, .int clauses_, .int count_, u_lettersOfA_, u_lettersOfB_])), (a_cells, .inl (cI, 320, .inl cells_))] → va_S A s.heap H locs → lv_has ls 4 [(0, .ref a_this), (1, .int x1_), (2, .int x2_), (3, .int x3_)] → W p l e ({ frames := 4, cells := 0, slots := 0, locals := 94 } : Room) s m args below meth c H locs 0 0 Q (F0 m 2 ls [])) (count_ : Int32) (cells_ : (Nat → Int32)) (x3_ : Int32) (hf : b_X5_makeOfBoth_2 clauses_ x1_ x2_ k2 count_ cells_ x3_ = some res) {H : Heap} {locs : List Loc} {ls : Array Slot} (hP : va_P G vwCl [(a_this, .inr (5, [.ref a_cells, .int clauses_, .int count_, u_lettersOfA_, u_lettersOfB_])), (a_cells, .inl (cI, 320, .inl cells_))] H) (hD : va_D A [(a_this, .inr (5, [.ref a_cells, .int clauses_, .int count_, u_lettersOfA_, u_lettersOfB_])), (a_cells, .inl (cI, 320, .inl cells_))]) (hS : va_S A s.heap H locs) (hl : lv_has ls 4 [(0, .ref a_this), (1, .int x1_), (2, .int x2_), (3, .int x3_)]) : W p l e ({ frames := 4, cells := 0, slots := 0, locals := 94 } : Room) s m args below meth c H locs 0 0 Q (F0 m 2 ls []) := by
  obtain ⟨hx, hb, hml, hown, hts⟩ := id M
  unfold b_X5_makeOfBoth_2 at hf
  refine lv_iload_n hx hb dX5_makeOfBoth_2 rfl (lv_at hl 3 rfl) ?_
  refine lv_bipush (v := (8 : Int32)) hx hb dX5_makeOfBoth_3 (by decide) ?_
  refine lv_icmp_ge (tgt := 36) hx hb dX5_makeOfBoth_5 (by decide) (fun hc1 => ?_) (fun hc1 => ?_)
  · have hf := oI_t hc1 hf
    refine lv_iconst (v := (0 : Int32)) hx hb dX5_makeOfBoth_36 (by decide) ?_
    exact hR _ _ _ hf (by decide) _ _ _ _ dX5_makeOfBoth_37 hP hD hS
  · have hf := oI_f hc1 hf
    refine lv_aload_n hx hb dX5_makeOfBoth_8 rfl (lv_at hl 0 rfl) ?_
    refine lv_iload_n hx hb dX5_makeOfBoth_9 rfl (lv_at hl 1 rfl) ?_
    refine lv_iload_n hx hb dX5_makeOfBoth_10 rfl (lv_at hl 2 rfl) ?_
    refine lv_iload_n hx hb dX5_makeOfBoth_11 rfl (lv_at hl 3 rfl) ?_
    obtain ⟨r2, cells_3, count_4, hq5, hf⟩ := oB3_e hf
    refine xci (wr := []) (ws' := fun _ => [(a_this, .inr (5, [.ref a_cells, .int clauses_, .int count_4, u_lettersOfA_, u_lettersOfB_])), (a_cells, .inl (cI, 320, .inl cells_3))]) hA hP hD hS (xrV (As := [.int x1_, .int x2_, .int x3_]) (rest := []) M hA hK hZ hP hD hS (c_X5_makeIfNew l G cI cJ cZ cO tS H.size a_this a_cells (u_lettersOfA_) (u_lettersOfB_) clauses_ count_ cells_ x1_ x2_ x3_ r2 cells_3 count_4 hq5) (cwV 3 hts gX5_makeOfBoth_X5_makeIfNew rfl rfl rfl hd_X5_makeIfNew ⟨Nat.le_of_ble_eq_true rfl, Nat.le_of_ble_eq_true rfl⟩) [0, 1] rfl rfl 0 rfl rfl rfl hl.1 rfl (Nat.le_of_ble_eq_true rfl) dX5_makeOfBoth_12 ⟨Nat.le_of_ble_eq_true rfl, Nat.le_of_ble_eq_true rfl⟩) [0, 1] [] [0, 1] rfl rfl rfl rfl (fun _ => rfl) rfl (fun _ H locs hP hD hS => ?_)
    refine lv_if_ne (tgt := 28) hx hb dX5_makeOfBoth_15 (by decide) (fun hc6 => ?_) (fun hc6 => ?_)
    · have hf := oI_f hc6 hf
      refine lv_iconst (v := (1 : Int32)) hx hb dX5_makeOfBoth_28 (by decide) ?_
      exact hR _ _ _ hf (by decide) _ _ _ _ dX5_makeOfBoth_29 hP hD hS
    · have hf := oI_t hc6 hf
      refine lv_aload_n hx hb dX5_makeOfBoth_18 rfl (lv_at hl 0 rfl) ?_
      refine lv_iload_n hx hb dX5_makeOfBoth_19 rfl (lv_at hl 2 rfl) ?_
      refine lv_iload_n hx hb dX5_makeOfBoth_20 rfl (lv_at hl 1 rfl) ?_
      refine lv_iload_n hx hb dX5_makeOfBoth_21 rfl (lv_at hl 3 rfl) ?_
      obtain ⟨r7, cells_8, count_9, hq10, hf⟩ := oB3_e hf
      refine xci (wr := []) (ws' := fun _ => [(a_this, .inr (5, [.ref a_cells, .int clauses_, .int count_9, u_lettersOfA_, u_lettersOfB_])), (a_cells, .inl (cI, 320, .inl cells_8))]) hA hP hD hS (xrV (As := [.int x2_, .int x1_, .int x3_]) (rest := []) M hA hK hZ hP hD hS (c_X5_makeIfNew l G cI cJ cZ cO tS H.size a_this a_cells (u_lettersOfA_) (u_lettersOfB_) clauses_ count_4 cells_3 x2_ x1_ x3_ r7 cells_8 count_9 hq10) (cwV 3 hts gX5_makeOfBoth_X5_makeIfNew rfl rfl rfl hd_X5_makeIfNew ⟨Nat.le_of_ble_eq_true rfl, Nat.le_of_ble_eq_true rfl⟩) [0, 1] rfl rfl 0 rfl rfl rfl hl.1 rfl (Nat.le_of_ble_eq_true rfl) dX5_makeOfBoth_22 ⟨Nat.le_of_ble_eq_true rfl, Nat.le_of_ble_eq_true rfl⟩) [0, 1] [] [0, 1] rfl rfl rfl rfl (fun _ => rfl) rfl (fun _ H locs hP hD hS => ?_)
      refine lv_if_eq (tgt := 30) hx hb dX5_makeOfBoth_25 (by decide) (fun hc11 => ?_) (fun hc11 => ?_)
      · have hf := oI_t hc11 hf
        obtain ⟨x3_12, ex3_12, hf⟩ := oL_e hf
        refine lv_iinc (v := x3_12) (lv' := [(3, .int x3_12), (0, .ref a_this), (1, .int x1_), (2, .int x2_)]) hx hb dX5_makeOfBoth_30 hl (k := 3) rfl (by rw [← ex3_12]; rfl) (by decide) rfl (fun ls hl => ?_)
        refine lv_goto (tgt := 2) hx hb dX5_makeOfBoth_33 (by decide) ?_
        exact hk2 _ _ _ hf hP hD hS (lv_sub hl [1, 2, 3, 0] rfl)
      · have hf := oI_f hc11 hf
        refine lv_iconst (v := (1 : Int32)) hx hb dX5_makeOfBoth_28 (by decide) ?_
        exact hR _ _ _ hf (by decide) _ _ _ _ dX5_makeOfBoth_29 hP hD hS
set_option maxHeartbeats 4000000 in
set_option maxRecDepth 100000 in
theorem wl_X5_makeOfBoth_2 {p : Program} {l : Launch} {e : Env} {s : State} {m : MethodId} {args : Array Value} {below : List Frame} {meth : Method} {c : Code} {Q : State → Prop} {A : Nat → Prop} {G : va_G} {cI cJ cZ cO : ClassId} {tS : Nat} (a_this : Nat) (a_cells : Nat) (u_lettersOfA_ : Value) (u_lettersOfB_ : Value) (clauses_ : Int32) (hA : ∀ q : Nat, s.heap.size ≤ q → A q) (hK : va_K G vwCl (xTY cI cJ cZ cO) s) (hZ : xST tS A s) (M : CallFix p m c cX5_makeOfBoth 4 s args wsX5_makeOfBoth RX5) (res : Int32 × (Nat → Int32) × Int32) (hR : RT_X5_makeOfBoth p l e s m args below meth c Q A G cI cJ cZ cO a_this a_cells u_lettersOfA_ u_lettersOfB_ clauses_ res) (x1_ : Int32) (x2_ : Int32)  (n : Nat) : ∀ (count_ : Int32) (cells_ : (Nat → Int32)) (x3_ : Int32), oF (fun k z => b_X5_makeOfBoth_2 clauses_ x1_ x2_ k z.1 z.2.1 z.2.2) n (count_, cells_, x3_) = some res → ∀ {H : Heap} {locs : List Loc} {ls : Array Slot}, va_P G vwCl [(a_this, .inr (5, [.ref a_cells, .int clauses_, .int count_, u_lettersOfA_, u_lettersOfB_])), (a_cells, .inl (cI, 320, .inl cells_))] H → va_D A [(a_this, .inr (5, [.ref a_cells, .int clauses_, .int count_, u_lettersOfA_, u_lettersOfB_])), (a_cells, .inl (cI, 320, .inl cells_))] → va_S A s.heap H locs → lv_has ls 4 [(0, .ref a_this), (1, .int x1_), (2, .int x2_), (3, .int x3_)] → W p l e ({ frames := 4, cells := 0, slots := 0, locals := 94 } : Room) s m args below meth c H locs 0 0 Q (F0 m 2 ls []) := by
  induction n with
  | zero => intro count_ cells_ x3_ hf; cases hf
  | succ n ih =>
    intro count_ cells_ x3_ hf H locs ls hP hD hS hl
    exact wb_X5_makeOfBoth_2 a_this a_cells u_lettersOfA_ u_lettersOfB_ clauses_ hA hK hZ M res hR x1_ x2_  _ ih count_ cells_ x3_ hf hP hD hS hl
set_option maxHeartbeats 4000000 in
set_option maxRecDepth 100000 in
theorem w_X5_makeOfBoth_0 {p : Program} {l : Launch} {e : Env} {s : State} {m : MethodId} {args : Array Value} {below : List Frame} {meth : Method} {c : Code} {Q : State → Prop} {A : Nat → Prop} {G : va_G} {cI cJ cZ cO : ClassId} {tS : Nat} (a_this : Nat) (a_cells : Nat) (u_lettersOfA_ : Value) (u_lettersOfB_ : Value) (clauses_ : Int32) (hA : ∀ q : Nat, s.heap.size ≤ q → A q) (hK : va_K G vwCl (xTY cI cJ cZ cO) s) (hZ : xST tS A s) (M : CallFix p m c cX5_makeOfBoth 4 s args wsX5_makeOfBoth RX5) (res : Int32 × (Nat → Int32) × Int32) (hR : RT_X5_makeOfBoth p l e s m args below meth c Q A G cI cJ cZ cO a_this a_cells u_lettersOfA_ u_lettersOfB_ clauses_ res) (count_ : Int32) (cells_ : (Nat → Int32)) (x1_ : Int32) (x2_ : Int32) (hf : f_X5_makeOfBoth clauses_ count_ cells_ x1_ x2_ = some res) {H : Heap} {locs : List Loc} {ls : Array Slot} (hP : va_P G vwCl [(a_this, .inr (5, [.ref a_cells, .int clauses_, .int count_, u_lettersOfA_, u_lettersOfB_])), (a_cells, .inl (cI, 320, .inl cells_))] H) (hD : va_D A [(a_this, .inr (5, [.ref a_cells, .int clauses_, .int count_, u_lettersOfA_, u_lettersOfB_])), (a_cells, .inl (cI, 320, .inl cells_))]) (hS : va_S A s.heap H locs) (hl : lv_has ls 4 [(0, .ref a_this), (1, .int x1_), (2, .int x2_)]) : W p l e ({ frames := 4, cells := 0, slots := 0, locals := 94 } : Room) s m args below meth c H locs 0 0 Q (F0 m 0 ls []) := by
  obtain ⟨hx, hb, hml, hown, hts⟩ := id M
  unfold f_X5_makeOfBoth at hf
  refine lv_iconst (v := (0 : Int32)) hx hb dX5_makeOfBoth_0 (by decide) ?_
  refine lv_istore_n (lv' := [(3, .int (0 : Int32)), (0, .ref a_this), (1, .int x1_), (2, .int x2_)]) hx hb dX5_makeOfBoth_1 rfl hl (by decide) rfl (fun ls hl => ?_)
  exact wl_X5_makeOfBoth_2 a_this a_cells u_lettersOfA_ u_lettersOfB_ clauses_ hA hK hZ M res hR x1_ x2_  xN count_ cells_ (0 : Int32) hf hP hD hS (lv_sub hl [1, 2, 3, 0] rfl)
set_option maxHeartbeats 4000000 in
set_option maxRecDepth 100000 in
theorem c_X5_makeOfBoth (l : Launch) (G : va_G) (cI cJ cZ cO : ClassId) (tS sz : Nat) (a_this : Nat) (a_cells : Nat) (u_lettersOfA_ : Value) (u_lettersOfB_ : Value) (clauses_ : Int32) (count_ : Int32) (cells_ : (Nat → Int32)) (x1_ : Int32) (x2_ : Int32) (v_ : Int32) (o_cells_ : (Nat → Int32)) (o_count_ : Int32) (hf : f_X5_makeOfBoth clauses_ count_ cells_ x1_ x2_ = some (v_, o_cells_, o_count_)) : Met l yX5_makeOfBoth wsX5_makeOfBoth ({ frames := 4, cells := 0, slots := 0, locals := 94 } : Room) (xPre G (xTY cI cJ cZ cO) tS [(a_this, .inr (5, [.ref a_cells, .int clauses_, .int count_, u_lettersOfA_, u_lettersOfB_])), (a_cells, .inl (cI, 320, .inl cells_))] sz [.ref a_this, .int x1_, .int x2_]) (xQi G [(a_this, .inr (5, [.ref a_cells, .int clauses_, .int count_, u_lettersOfA_, u_lettersOfB_])), (a_cells, .inl (cI, 320, .inl cells_))] sz (fun _ : Unit => [(a_this, .inr (5, [.ref a_cells, .int clauses_, .int o_count_, u_lettersOfA_, u_lettersOfB_])), (a_cells, .inl (cI, 320, .inl o_cells_))]) v_) 0 0 (va_A [(a_this, .inr (5, [.ref a_cells, .int clauses_, .int count_, u_lettersOfA_, u_lettersOfB_])), (a_cells, .inl (cI, 320, .inl cells_))] sz) := by
  refine xMet (cc := cX5_makeOfBoth) (maxL := 4) (ret := (some .boolean)) (own := RX5) (by decide +kernel) rfl rfl (Nat.le_of_ble_eq_true rfl) rfl ?_
  intro p e s m below meth c ls M hr hlk hin hsz hA hK hZ hP hD hl
  refine w_X5_makeOfBoth_0 a_this a_cells u_lettersOfA_ u_lettersOfB_ clauses_ hA hK hZ M (v_, o_cells_, o_count_) (fun v_' o_cells_' o_count_' hres hz H locs ls pc hd hP hD hS => ?_) count_ cells_ x1_ x2_ hf hP hD va_S.rf hl
  cases hres
  exact xretz (W1 := fun _ : Unit => [(a_this, .inr (5, [.ref a_cells, .int clauses_, .int o_count_, u_lettersOfA_, u_lettersOfB_])), (a_cells, .inl (cI, 320, .inl o_cells_))]) M hr hlk hz () hP hD hS hd
/-! BetweenBoth$Steps.makeSought()V -/
theorem uw_X5_makeSought_X5 : ∀ w ∈ u_ws RX5 TX5 5, w ∈ wsX5_makeSought := by decide +kernel
theorem fl_X5_makeSought_15 : Cond.fieldLink RX5 15 "BetweenBoth$Steps" (TX5 2).2.1 (TX5 2).2.2.1 ∈ wsX5_makeSought := by decide +kernel
theorem hd_X5_makeSought : yX5_makeSought.cls = RX5 ∧ yX5_makeSought.cls ≠ "java/lang/invoke/MethodHandle" ∧ yX5_makeSought.cls ≠ "java/lang/invoke/VarHandle" ∧ (parseMethodDescriptor yX5_makeSought.desc).map (fun d => d.parameters.length) = some 0 := by decide +kernel
def RT_X5_makeSought (p : Program) (l : Launch) (e : Env) (s : State) (m : MethodId) (args : Array Value) (below : List Frame) (meth : Method) (c : Code) (Q : State → Prop) (A : Nat → Prop) (G : va_G) (cI cJ cZ cO : ClassId) (a_this : Nat) (a_cells : Nat) (u_lettersOfA_ : Value) (u_lettersOfB_ : Value) (clauses_ : Int32) (res : (Nat → Int32) × Int32) : Prop := ∀ (o_cells_ : (Nat → Int32)) (o_count_ : Int32), some (o_cells_, o_count_) = some res → ∀ (H : Heap) (locs : List Loc) (ls : Array Slot) (pc : Nat), decode cX5_makeSought pc = .ok (.return_, 1) → va_P G vwCl [(a_this, .inr (5, [.ref a_cells, .int clauses_, .int o_count_, u_lettersOfA_, u_lettersOfB_])), (a_cells, .inl (cI, 320, .inl o_cells_))] H → va_D A [(a_this, .inr (5, [.ref a_cells, .int clauses_, .int o_count_, u_lettersOfA_, u_lettersOfB_])), (a_cells, .inl (cI, 320, .inl o_cells_))] → va_S A s.heap H locs → W p l e ({ frames := 5, cells := 0, slots := 0, locals := 117 } : Room) s m args below meth c H locs 0 0 Q (F0 m pc ls [])
set_option maxHeartbeats 4000000 in
set_option maxRecDepth 100000 in
theorem w_X5_makeSought_50 {p : Program} {l : Launch} {e : Env} {s : State} {m : MethodId} {args : Array Value} {below : List Frame} {meth : Method} {c : Code} {Q : State → Prop} {A : Nat → Prop} {G : va_G} {cI cJ cZ cO : ClassId} {tS : Nat} (a_this : Nat) (a_cells : Nat) (u_lettersOfA_ : Value) (u_lettersOfB_ : Value) (clauses_ : Int32) (hA : ∀ q : Nat, s.heap.size ≤ q → A q) (hK : va_K G vwCl (xTY cI cJ cZ cO) s) (hZ : xST tS A s) (M : CallFix p m c cX5_makeSought 3 s args wsX5_makeSought RX5) (res : (Nat → Int32) × Int32) (hR : RT_X5_makeSought p l e s m args below meth c Q A G cI cJ cZ cO a_this a_cells u_lettersOfA_ u_lettersOfB_ clauses_ res) (count_ : Int32) (cells_ : (Nat → Int32)) (x1_ : Int32) (x2_ : Int32) (k10 : (Int32 × (Nat → Int32) × Int32) → Option ((Nat → Int32) × Int32)) (hk10 : ∀ (count_ : Int32) (cells_ : (Nat → Int32)) (x1_ : Int32), k10 (count_, cells_, x1_) = some res → ∀ {H : Heap} {locs : List Loc} {ls : Array Slot}, va_P G vwCl [(a_this, .inr (5, [.ref a_cells, .int clauses_, .int count_, u_lettersOfA_, u_lettersOfB_])), (a_cells, .inl (cI, 320, .inl cells_))] H → va_D A [(a_this, .inr (5, [.ref a_cells, .int clauses_, .int count_, u_lettersOfA_, u_lettersOfB_])), (a_cells, .inl (cI, 320, .inl cells_))] → va_S A s.heap H locs → lv_has ls 3 [(0, .ref a_this), (1, .int x1_)] → W p l e ({ frames := 5, cells := 0, slots := 0, locals := 117 } : Room) s m args below meth c H locs 0 0 Q (F0 m 10 ls [])) (k26 : (Int32 × (Nat → Int32) × Int32) → Option ((Nat → Int32) × Int32)) (hk26 : ∀ (count_ : Int32) (cells_ : (Nat → Int32)) (x2_ : Int32), k26 (count_, cells_, x2_) = some res → ∀ {H : Heap} {locs : List Loc} {ls : Array Slot}, va_P G vwCl [(a_this, .inr (5, [.ref a_cells, .int clauses_, .int count_, u_lettersOfA_, u_lettersOfB_])), (a_cells, .inl (cI, 320, .inl cells_))] H → va_D A [(a_this, .inr (5, [.ref a_cells, .int clauses_, .int count_, u_lettersOfA_, u_lettersOfB_])), (a_cells, .inl (cI, 320, .inl cells_))] → va_S A s.heap H locs → lv_has ls 3 [(0, .ref a_this), (1, .int x1_), (2, .int x2_)] → W p l e ({ frames := 5, cells := 0, slots := 0, locals := 117 } : Room) s m args below meth c H locs 0 0 Q (F0 m 26 ls [])) (hf : f_X5_makeSought_50 count_ cells_ x2_ k26 = some res) {H : Heap} {locs : List Loc} {ls : Array Slot} (hP : va_P G vwCl [(a_this, .inr (5, [.ref a_cells, .int clauses_, .int count_, u_lettersOfA_, u_lettersOfB_])), (a_cells, .inl (cI, 320, .inl cells_))] H) (hD : va_D A [(a_this, .inr (5, [.ref a_cells, .int clauses_, .int count_, u_lettersOfA_, u_lettersOfB_])), (a_cells, .inl (cI, 320, .inl cells_))]) (hS : va_S A s.heap H locs) (hl : lv_has ls 3 [(0, .ref a_this), (1, .int x1_), (2, .int x2_)]) : W p l e ({ frames := 5, cells := 0, slots := 0, locals := 117 } : Room) s m args below meth c H locs 0 0 Q (F0 m 50 ls []) := by
  obtain ⟨hx, hb, hml, hown, hts⟩ := id M
  unfold f_X5_makeSought_50 at hf
  obtain ⟨x2_1, ex2_1, hf⟩ := oL_e hf
  refine lv_iinc (v := x2_1) (lv' := [(2, .int x2_1), (0, .ref a_this), (1, .int x1_)]) hx hb dX5_makeSought_50 hl (k := 2) rfl (by rw [← ex2_1]; rfl) (by decide) rfl (fun ls hl => ?_)
  refine lv_goto (tgt := 26) hx hb dX5_makeSought_53 (by decide) ?_
  exact hk26 _ _ _ hf hP hD hS (lv_sub hl [1, 2, 0] rfl)
set_option maxHeartbeats 4000000 in
set_option maxRecDepth 100000 in
theorem wb_X5_makeSought_26 {p : Program} {l : Launch} {e : Env} {s : State} {m : MethodId} {args : Array Value} {below : List Frame} {meth : Method} {c : Code} {Q : State → Prop} {A : Nat → Prop} {G : va_G} {cI cJ cZ cO : ClassId} {tS : Nat} (a_this : Nat) (a_cells : Nat) (u_lettersOfA_ : Value) (u_lettersOfB_ : Value) (clauses_ : Int32) (hA : ∀ q : Nat, s.heap.size ≤ q → A q) (hK : va_K G vwCl (xTY cI cJ cZ cO) s) (hZ : xST tS A s) (M : CallFix p m c cX5_makeSought 3 s args wsX5_makeSought RX5) (res : (Nat → Int32) × Int32) (hR : RT_X5_makeSought p l e s m args below meth c Q A G cI cJ cZ cO a_this a_cells u_lettersOfA_ u_lettersOfB_ clauses_ res) (x1_ : Int32) (k10 : (Int32 × (Nat → Int32) × Int32) → Option ((Nat → Int32) × Int32)) (hk10 : ∀ (count_ : Int32) (cells_ : (Nat → Int32)) (x1_ : Int32), k10 (count_, cells_, x1_) = some res → ∀ {H : Heap} {locs : List Loc} {ls : Array Slot}, va_P G vwCl [(a_this, .inr (5, [.ref a_cells, .int clauses_, .int count_, u_lettersOfA_, u_lettersOfB_])), (a_cells, .inl (cI, 320, .inl cells_))] H → va_D A [(a_this, .inr (5, [.ref a_cells, .int clauses_, .int count_, u_lettersOfA_, u_lettersOfB_])), (a_cells, .inl (cI, 320, .inl cells_))] → va_S A s.heap H locs → lv_has ls 3 [(0, .ref a_this), (1, .int x1_)] → W p l e ({ frames := 5, cells := 0, slots := 0, locals := 117 } : Room) s m args below meth c H locs 0 0 Q (F0 m 10 ls [])) (k26 : (Int32 × (Nat → Int32) × Int32) → Option ((Nat → Int32) × Int32)) (hk26 : ∀ (count_ : Int32) (cells_ : (Nat → Int32)) (x2_ : Int32), k26 (count_, cells_, x2_) = some res → ∀ {H : Heap} {locs : List Loc} {ls : Array Slot}, va_P G vwCl [(a_this, .inr (5, [.ref a_cells, .int clauses_, .int count_, u_lettersOfA_, u_lettersOfB_])), (a_cells, .inl (cI, 320, .inl cells_))] H → va_D A [(a_this, .inr (5, [.ref a_cells, .int clauses_, .int count_, u_lettersOfA_, u_lettersOfB_])), (a_cells, .inl (cI, 320, .inl cells_))] → va_S A s.heap H locs → lv_has ls 3 [(0, .ref a_this), (1, .int x1_), (2, .int x2_)] → W p l e ({ frames := 5, cells := 0, slots := 0, locals := 117 } : Room) s m args below meth c H locs 0 0 Q (F0 m 26 ls [])) (count_ : Int32) (cells_ : (Nat → Int32)) (x2_ : Int32) (hf : b_X5_makeSought_26 clauses_ x1_ k10 k26 count_ cells_ x2_ = some res) {H : Heap} {locs : List Loc} {ls : Array Slot} (hP : va_P G vwCl [(a_this, .inr (5, [.ref a_cells, .int clauses_, .int count_, u_lettersOfA_, u_lettersOfB_])), (a_cells, .inl (cI, 320, .inl cells_))] H) (hD : va_D A [(a_this, .inr (5, [.ref a_cells, .int clauses_, .int count_, u_lettersOfA_, u_lettersOfB_])), (a_cells, .inl (cI, 320, .inl cells_))]) (hS : va_S A s.heap H locs) (hl : lv_has ls 3 [(0, .ref a_this), (1, .int x1_), (2, .int x2_)]) : W p l e ({ frames := 5, cells := 0, slots := 0, locals := 117 } : Room) s m args below meth c H locs 0 0 Q (F0 m 26 ls []) := by
  obtain ⟨hx, hb, hml, hown, hts⟩ := id M
  unfold b_X5_makeSought_26 at hf
  refine lv_iload_n hx hb dX5_makeSought_26 rfl (lv_at hl 2 rfl) ?_
  refine lv_iload_n hx hb dX5_makeSought_27 rfl (lv_at hl 1 rfl) ?_
  refine lv_icmp_ge (tgt := 56) hx hb dX5_makeSought_28 (by decide) (fun hc1 => ?_) (fun hc1 => ?_)
  · have hf := oI_t hc1 hf
    obtain ⟨x1_2, ex1_2, hf⟩ := oL_e hf
    refine lv_iinc (v := x1_2) (lv' := [(1, .int x1_2), (0, .ref a_this), (2, .int x2_)]) hx hb dX5_makeSought_56 hl (k := 1) rfl (by rw [← ex1_2]; rfl) (by decide) rfl (fun ls hl => ?_)
    refine lv_goto (tgt := 10) hx hb dX5_makeSought_59 (by decide) ?_
    exact hk10 _ _ _ hf hP hD hS (lv_sub hl [1, 0] rfl)
  · have hf := oI_f hc1 hf
    refine lv_aload_n hx hb dX5_makeSought_31 rfl (lv_at hl 0 rfl) ?_
    refine lv_iload_n hx hb dX5_makeSought_32 rfl (lv_at hl 2 rfl) ?_
    refine lv_iload_n hx hb dX5_makeSought_33 rfl (lv_at hl 1 rfl) ?_
    obtain ⟨r3, hq4, hf⟩ := oB1_e hf
    refine xci (wr := []) (ws' := fun _ => [(a_this, .inr (5, [.ref a_cells, .int clauses_, .int count_, u_lettersOfA_, u_lettersOfB_])), (a_cells, .inl (cI, 320, .inl cells_))]) hA hP hD hS (xrV (As := [.int x2_, .int x1_]) (rest := []) M hA hK hZ hP hD hS (c_X5_meeting l G cI cJ cZ cO tS H.size a_this a_cells (.int clauses_) (.int count_) (u_lettersOfA_) (u_lettersOfB_) cells_ x2_ x1_ r3 hq4) (cwV 2 hts gX5_makeSought_X5_meeting rfl rfl rfl hd_X5_meeting ⟨Nat.le_of_ble_eq_true rfl, Nat.le_of_ble_eq_true rfl⟩) [0, 1] rfl rfl 0 rfl rfl rfl hl.1 rfl (Nat.le_of_ble_eq_true rfl) dX5_makeSought_34 ⟨Nat.le_of_ble_eq_true rfl, Nat.le_of_ble_eq_true rfl⟩) [0, 1] [] [0, 1] rfl rfl rfl rfl (fun _ => rfl) rfl (fun _ H locs hP hD hS => ?_)
    refine lv_if_eq (tgt := 50) hx hb dX5_makeSought_37 (by decide) (fun hc5 => ?_) (fun hc5 => ?_)
    · have hf := oI_t hc5 hf
      exact w_X5_makeSought_50 a_this a_cells u_lettersOfA_ u_lettersOfB_ clauses_ hA hK hZ M res hR count_ cells_ x1_ x2_ k10 hk10 k26 hk26 hf hP hD hS (lv_sub hl [0, 1, 2] rfl)
    · have hf := oI_f hc5 hf
      refine lv_aload_n hx hb dX5_makeSought_40 rfl (lv_at hl 0 rfl) ?_
      refine lv_iload_n hx hb dX5_makeSought_41 rfl (lv_at hl 2 rfl) ?_
      refine lv_iload_n hx hb dX5_makeSought_42 rfl (lv_at hl 1 rfl) ?_
      obtain ⟨r6, cells_7, count_8, hq9, hf⟩ := oB3_e hf
      refine xci (wr := []) (ws' := fun _ => [(a_this, .inr (5, [.ref a_cells, .int clauses_, .int count_8, u_lettersOfA_, u_lettersOfB_])), (a_cells, .inl (cI, 320, .inl cells_7))]) hA hP hD hS (xrV (As := [.int x2_, .int x1_]) (rest := []) M hA hK hZ hP hD hS (c_X5_makeOfBoth l G cI cJ cZ cO tS H.size a_this a_cells (u_lettersOfA_) (u_lettersOfB_) clauses_ count_ cells_ x2_ x1_ r6 cells_7 count_8 hq9) (cwV 2 hts gX5_makeSought_X5_makeOfBoth rfl rfl rfl hd_X5_makeOfBoth ⟨Nat.le_of_ble_eq_true rfl, Nat.le_of_ble_eq_true rfl⟩) [0, 1] rfl rfl 0 rfl rfl rfl hl.1 rfl (Nat.le_of_ble_eq_true rfl) dX5_makeSought_43 ⟨Nat.le_of_ble_eq_true rfl, Nat.le_of_ble_eq_true rfl⟩) [0, 1] [] [0, 1] rfl rfl rfl rfl (fun _ => rfl) rfl (fun _ H locs hP hD hS => ?_)
      refine lv_if_eq (tgt := 50) hx hb dX5_makeSought_46 (by decide) (fun hc10 => ?_) (fun hc10 => ?_)
      · have hf := oI_t hc10 hf
        exact w_X5_makeSought_50 a_this a_cells u_lettersOfA_ u_lettersOfB_ clauses_ hA hK hZ M res hR count_8 cells_7 x1_ x2_ k10 hk10 k26 hk26 hf hP hD hS (lv_sub hl [0, 1, 2] rfl)
      · have hf := oI_f hc10 hf
        exact hR _ _ hf _ _ _ _ dX5_makeSought_49 hP hD hS
set_option maxHeartbeats 4000000 in
set_option maxRecDepth 100000 in
theorem wl_X5_makeSought_26 {p : Program} {l : Launch} {e : Env} {s : State} {m : MethodId} {args : Array Value} {below : List Frame} {meth : Method} {c : Code} {Q : State → Prop} {A : Nat → Prop} {G : va_G} {cI cJ cZ cO : ClassId} {tS : Nat} (a_this : Nat) (a_cells : Nat) (u_lettersOfA_ : Value) (u_lettersOfB_ : Value) (clauses_ : Int32) (hA : ∀ q : Nat, s.heap.size ≤ q → A q) (hK : va_K G vwCl (xTY cI cJ cZ cO) s) (hZ : xST tS A s) (M : CallFix p m c cX5_makeSought 3 s args wsX5_makeSought RX5) (res : (Nat → Int32) × Int32) (hR : RT_X5_makeSought p l e s m args below meth c Q A G cI cJ cZ cO a_this a_cells u_lettersOfA_ u_lettersOfB_ clauses_ res) (x1_ : Int32) (k10 : (Int32 × (Nat → Int32) × Int32) → Option ((Nat → Int32) × Int32)) (hk10 : ∀ (count_ : Int32) (cells_ : (Nat → Int32)) (x1_ : Int32), k10 (count_, cells_, x1_) = some res → ∀ {H : Heap} {locs : List Loc} {ls : Array Slot}, va_P G vwCl [(a_this, .inr (5, [.ref a_cells, .int clauses_, .int count_, u_lettersOfA_, u_lettersOfB_])), (a_cells, .inl (cI, 320, .inl cells_))] H → va_D A [(a_this, .inr (5, [.ref a_cells, .int clauses_, .int count_, u_lettersOfA_, u_lettersOfB_])), (a_cells, .inl (cI, 320, .inl cells_))] → va_S A s.heap H locs → lv_has ls 3 [(0, .ref a_this), (1, .int x1_)] → W p l e ({ frames := 5, cells := 0, slots := 0, locals := 117 } : Room) s m args below meth c H locs 0 0 Q (F0 m 10 ls [])) (n : Nat) : ∀ (count_ : Int32) (cells_ : (Nat → Int32)) (x2_ : Int32), oF (fun k z => b_X5_makeSought_26 clauses_ x1_ k10 k z.1 z.2.1 z.2.2) n (count_, cells_, x2_) = some res → ∀ {H : Heap} {locs : List Loc} {ls : Array Slot}, va_P G vwCl [(a_this, .inr (5, [.ref a_cells, .int clauses_, .int count_, u_lettersOfA_, u_lettersOfB_])), (a_cells, .inl (cI, 320, .inl cells_))] H → va_D A [(a_this, .inr (5, [.ref a_cells, .int clauses_, .int count_, u_lettersOfA_, u_lettersOfB_])), (a_cells, .inl (cI, 320, .inl cells_))] → va_S A s.heap H locs → lv_has ls 3 [(0, .ref a_this), (1, .int x1_), (2, .int x2_)] → W p l e ({ frames := 5, cells := 0, slots := 0, locals := 117 } : Room) s m args below meth c H locs 0 0 Q (F0 m 26 ls []) := by
  induction n with
  | zero => intro count_ cells_ x2_ hf; cases hf
  | succ n ih =>
    intro count_ cells_ x2_ hf H locs ls hP hD hS hl
    exact wb_X5_makeSought_26 a_this a_cells u_lettersOfA_ u_lettersOfB_ clauses_ hA hK hZ M res hR x1_ k10 hk10 _ ih count_ cells_ x2_ hf hP hD hS hl
set_option maxHeartbeats 4000000 in
set_option maxRecDepth 100000 in
theorem wb_X5_makeSought_10 {p : Program} {l : Launch} {e : Env} {s : State} {m : MethodId} {args : Array Value} {below : List Frame} {meth : Method} {c : Code} {Q : State → Prop} {A : Nat → Prop} {G : va_G} {cI cJ cZ cO : ClassId} {tS : Nat} (a_this : Nat) (a_cells : Nat) (u_lettersOfA_ : Value) (u_lettersOfB_ : Value) (clauses_ : Int32) (hA : ∀ q : Nat, s.heap.size ≤ q → A q) (hK : va_K G vwCl (xTY cI cJ cZ cO) s) (hZ : xST tS A s) (M : CallFix p m c cX5_makeSought 3 s args wsX5_makeSought RX5) (res : (Nat → Int32) × Int32) (hR : RT_X5_makeSought p l e s m args below meth c Q A G cI cJ cZ cO a_this a_cells u_lettersOfA_ u_lettersOfB_ clauses_ res)   (k10 : (Int32 × (Nat → Int32) × Int32) → Option ((Nat → Int32) × Int32)) (hk10 : ∀ (count_ : Int32) (cells_ : (Nat → Int32)) (x1_ : Int32), k10 (count_, cells_, x1_) = some res → ∀ {H : Heap} {locs : List Loc} {ls : Array Slot}, va_P G vwCl [(a_this, .inr (5, [.ref a_cells, .int clauses_, .int count_, u_lettersOfA_, u_lettersOfB_])), (a_cells, .inl (cI, 320, .inl cells_))] H → va_D A [(a_this, .inr (5, [.ref a_cells, .int clauses_, .int count_, u_lettersOfA_, u_lettersOfB_])), (a_cells, .inl (cI, 320, .inl cells_))] → va_S A s.heap H locs → lv_has ls 3 [(0, .ref a_this), (1, .int x1_)] → W p l e ({ frames := 5, cells := 0, slots := 0, locals := 117 } : Room) s m args below meth c H locs 0 0 Q (F0 m 10 ls [])) (count_ : Int32) (cells_ : (Nat → Int32)) (x1_ : Int32) (hf : b_X5_makeSought_10 clauses_ k10 count_ cells_ x1_ = some res) {H : Heap} {locs : List Loc} {ls : Array Slot} (hP : va_P G vwCl [(a_this, .inr (5, [.ref a_cells, .int clauses_, .int count_, u_lettersOfA_, u_lettersOfB_])), (a_cells, .inl (cI, 320, .inl cells_))] H) (hD : va_D A [(a_this, .inr (5, [.ref a_cells, .int clauses_, .int count_, u_lettersOfA_, u_lettersOfB_])), (a_cells, .inl (cI, 320, .inl cells_))]) (hS : va_S A s.heap H locs) (hl : lv_has ls 3 [(0, .ref a_this), (1, .int x1_)]) : W p l e ({ frames := 5, cells := 0, slots := 0, locals := 117 } : Room) s m args below meth c H locs 0 0 Q (F0 m 10 ls []) := by
  obtain ⟨hx, hb, hml, hown, hts⟩ := id M
  unfold b_X5_makeSought_10 at hf
  refine lv_iload_n hx hb dX5_makeSought_10 rfl (lv_at hl 1 rfl) ?_
  refine lv_bipush (v := (40 : Int32)) hx hb dX5_makeSought_11 (by decide) ?_
  refine lv_icmp_ge (tgt := 62) hx hb dX5_makeSought_13 (by decide) (fun hc1 => ?_) (fun hc1 => ?_)
  · have hf := oI_t hc1 hf
    exact hR _ _ hf _ _ _ _ dX5_makeSought_62 hP hD hS
  · have hf := oI_f hc1 hf
    refine lv_iload_n hx hb dX5_makeSought_16 rfl (lv_at hl 1 rfl) ?_
    refine lv_aload_n hx hb dX5_makeSought_17 rfl (lv_at hl 0 rfl) ?_
    refine xget M (C := RX5) (T := TX5) (N := 5) (ci := 5) (v := .int count_) uw_X5_makeSought_X5 hK hP 0 rfl rfl 2 (by decide) fl_X5_makeSought_15 rfl rfl dX5_makeSought_18 ?_
    refine lv_icmp_ge (tgt := 62) hx hb dX5_makeSought_21 (by decide) (fun hc2 => ?_) (fun hc2 => ?_)
    · have hf := oI_t hc2 hf
      exact hR _ _ hf _ _ _ _ dX5_makeSought_62 hP hD hS
    · have hf := oI_f hc2 hf
      refine lv_iconst (v := (0 : Int32)) hx hb dX5_makeSought_24 (by decide) ?_
      refine lv_istore_n (lv' := [(2, .int (0 : Int32)), (0, .ref a_this), (1, .int x1_)]) hx hb dX5_makeSought_25 rfl hl (by decide) rfl (fun ls hl => ?_)
      exact wl_X5_makeSought_26 a_this a_cells u_lettersOfA_ u_lettersOfB_ clauses_ hA hK hZ M res hR x1_ k10 hk10 xN count_ cells_ (0 : Int32) hf hP hD hS (lv_sub hl [1, 2, 0] rfl)
set_option maxHeartbeats 4000000 in
set_option maxRecDepth 100000 in
theorem wl_X5_makeSought_10 {p : Program} {l : Launch} {e : Env} {s : State} {m : MethodId} {args : Array Value} {below : List Frame} {meth : Method} {c : Code} {Q : State → Prop} {A : Nat → Prop} {G : va_G} {cI cJ cZ cO : ClassId} {tS : Nat} (a_this : Nat) (a_cells : Nat) (u_lettersOfA_ : Value) (u_lettersOfB_ : Value) (clauses_ : Int32) (hA : ∀ q : Nat, s.heap.size ≤ q → A q) (hK : va_K G vwCl (xTY cI cJ cZ cO) s) (hZ : xST tS A s) (M : CallFix p m c cX5_makeSought 3 s args wsX5_makeSought RX5) (res : (Nat → Int32) × Int32) (hR : RT_X5_makeSought p l e s m args below meth c Q A G cI cJ cZ cO a_this a_cells u_lettersOfA_ u_lettersOfB_ clauses_ res)   (n : Nat) : ∀ (count_ : Int32) (cells_ : (Nat → Int32)) (x1_ : Int32), oF (fun k z => b_X5_makeSought_10 clauses_ k z.1 z.2.1 z.2.2) n (count_, cells_, x1_) = some res → ∀ {H : Heap} {locs : List Loc} {ls : Array Slot}, va_P G vwCl [(a_this, .inr (5, [.ref a_cells, .int clauses_, .int count_, u_lettersOfA_, u_lettersOfB_])), (a_cells, .inl (cI, 320, .inl cells_))] H → va_D A [(a_this, .inr (5, [.ref a_cells, .int clauses_, .int count_, u_lettersOfA_, u_lettersOfB_])), (a_cells, .inl (cI, 320, .inl cells_))] → va_S A s.heap H locs → lv_has ls 3 [(0, .ref a_this), (1, .int x1_)] → W p l e ({ frames := 5, cells := 0, slots := 0, locals := 117 } : Room) s m args below meth c H locs 0 0 Q (F0 m 10 ls []) := by
  induction n with
  | zero => intro count_ cells_ x1_ hf; cases hf
  | succ n ih =>
    intro count_ cells_ x1_ hf H locs ls hP hD hS hl
    exact wb_X5_makeSought_10 a_this a_cells u_lettersOfA_ u_lettersOfB_ clauses_ hA hK hZ M res hR   _ ih count_ cells_ x1_ hf hP hD hS hl
set_option maxHeartbeats 4000000 in
set_option maxRecDepth 100000 in
theorem w_X5_makeSought_0 {p : Program} {l : Launch} {e : Env} {s : State} {m : MethodId} {args : Array Value} {below : List Frame} {meth : Method} {c : Code} {Q : State → Prop} {A : Nat → Prop} {G : va_G} {cI cJ cZ cO : ClassId} {tS : Nat} (a_this : Nat) (a_cells : Nat) (u_lettersOfA_ : Value) (u_lettersOfB_ : Value) (clauses_ : Int32) (hA : ∀ q : Nat, s.heap.size ≤ q → A q) (hK : va_K G vwCl (xTY cI cJ cZ cO) s) (hZ : xST tS A s) (M : CallFix p m c cX5_makeSought 3 s args wsX5_makeSought RX5) (res : (Nat → Int32) × Int32) (hR : RT_X5_makeSought p l e s m args below meth c Q A G cI cJ cZ cO a_this a_cells u_lettersOfA_ u_lettersOfB_ clauses_ res) (count_ : Int32) (cells_ : (Nat → Int32))  (hf : f_X5_makeSought clauses_ count_ cells_ = some res) {H : Heap} {locs : List Loc} {ls : Array Slot} (hP : va_P G vwCl [(a_this, .inr (5, [.ref a_cells, .int clauses_, .int count_, u_lettersOfA_, u_lettersOfB_])), (a_cells, .inl (cI, 320, .inl cells_))] H) (hD : va_D A [(a_this, .inr (5, [.ref a_cells, .int clauses_, .int count_, u_lettersOfA_, u_lettersOfB_])), (a_cells, .inl (cI, 320, .inl cells_))]) (hS : va_S A s.heap H locs) (hl : lv_has ls 3 [(0, .ref a_this)]) : W p l e ({ frames := 5, cells := 0, slots := 0, locals := 117 } : Room) s m args below meth c H locs 0 0 Q (F0 m 0 ls []) := by
  obtain ⟨hx, hb, hml, hown, hts⟩ := id M
  unfold f_X5_makeSought at hf
  refine lv_aload_n hx hb dX5_makeSought_0 rfl (lv_at hl 0 rfl) ?_
  obtain ⟨r1, hq2, hf⟩ := oB1_e hf
  refine xci (wr := [(a_cells, .inl (cI, 320, .inl cells_))]) (ws' := fun _ => [(a_this, .inr (5, [.ref a_cells, .int clauses_, .int count_, u_lettersOfA_, u_lettersOfB_])), (a_cells, .inl (cI, 320, .inl cells_))]) hA hP hD hS (xrV (As := []) (rest := []) M hA hK hZ hP hD hS (c_X5_noneMoreFits l G cI cJ cZ cO tS H.size a_this (.ref a_cells) (u_lettersOfA_) (u_lettersOfB_) clauses_ count_ r1 hq2) (cwV 0 hts gX5_makeSought_X5_noneMoreFits rfl rfl rfl hd_X5_noneMoreFits ⟨Nat.le_of_ble_eq_true rfl, Nat.le_of_ble_eq_true rfl⟩) [0] rfl rfl 0 rfl rfl rfl hl.1 rfl (Nat.le_of_ble_eq_true rfl) dX5_makeSought_1 ⟨Nat.le_of_ble_eq_true rfl, Nat.le_of_ble_eq_true rfl⟩) [0] [1] [1, 0] rfl rfl rfl rfl (fun _ => rfl) rfl (fun _ H locs hP hD hS => ?_)
  refine lv_if_eq (tgt := 8) hx hb dX5_makeSought_4 (by decide) (fun hc3 => ?_) (fun hc3 => ?_)
  · have hf := oI_t hc3 hf
    refine lv_iconst (v := (1 : Int32)) hx hb dX5_makeSought_8 (by decide) ?_
    refine lv_istore_n (lv' := [(1, .int (1 : Int32)), (0, .ref a_this)]) hx hb dX5_makeSought_9 rfl hl (by decide) rfl (fun ls hl => ?_)
    exact wl_X5_makeSought_10 a_this a_cells u_lettersOfA_ u_lettersOfB_ clauses_ hA hK hZ M res hR   xN count_ cells_ (1 : Int32) hf hP hD hS (lv_sub hl [1, 0] rfl)
  · have hf := oI_f hc3 hf
    exact hR _ _ hf _ _ _ _ dX5_makeSought_7 hP hD hS
set_option maxHeartbeats 4000000 in
set_option maxRecDepth 100000 in
theorem c_X5_makeSought (l : Launch) (G : va_G) (cI cJ cZ cO : ClassId) (tS sz : Nat) (a_this : Nat) (a_cells : Nat) (u_lettersOfA_ : Value) (u_lettersOfB_ : Value) (clauses_ : Int32) (count_ : Int32) (cells_ : (Nat → Int32))  (o_cells_ : (Nat → Int32)) (o_count_ : Int32) (hf : f_X5_makeSought clauses_ count_ cells_ = some (o_cells_, o_count_)) : Met l yX5_makeSought wsX5_makeSought ({ frames := 5, cells := 0, slots := 0, locals := 117 } : Room) (xPre G (xTY cI cJ cZ cO) tS [(a_this, .inr (5, [.ref a_cells, .int clauses_, .int count_, u_lettersOfA_, u_lettersOfB_])), (a_cells, .inl (cI, 320, .inl cells_))] sz [.ref a_this]) (xQv G [(a_this, .inr (5, [.ref a_cells, .int clauses_, .int count_, u_lettersOfA_, u_lettersOfB_])), (a_cells, .inl (cI, 320, .inl cells_))] sz (fun _ : Unit => [(a_this, .inr (5, [.ref a_cells, .int clauses_, .int o_count_, u_lettersOfA_, u_lettersOfB_])), (a_cells, .inl (cI, 320, .inl o_cells_))])) 0 0 (va_A [(a_this, .inr (5, [.ref a_cells, .int clauses_, .int count_, u_lettersOfA_, u_lettersOfB_])), (a_cells, .inl (cI, 320, .inl cells_))] sz) := by
  refine xMet (cc := cX5_makeSought) (maxL := 3) (ret := none) (own := RX5) (by decide +kernel) rfl rfl (Nat.le_of_ble_eq_true rfl) rfl ?_
  intro p e s m below meth c ls M hr hlk hin hsz hA hK hZ hP hD hl
  refine w_X5_makeSought_0 a_this a_cells u_lettersOfA_ u_lettersOfB_ clauses_ hA hK hZ M (o_cells_, o_count_) (fun o_cells_' o_count_' hres H locs ls pc hd hP hD hS => ?_) count_ cells_  hf hP hD va_S.rf hl
  cases hres
  exact xretv (W1 := fun _ : Unit => [(a_this, .inr (5, [.ref a_cells, .int clauses_, .int o_count_, u_lettersOfA_, u_lettersOfB_])), (a_cells, .inl (cI, 320, .inl o_cells_))]) M hr hlk () hP hD hS hd
/-! BetweenBoth$Steps.firstEmpty()I -/
theorem uw_X5_firstEmpty_X5 : ∀ w ∈ u_ws RX5 TX5 5, w ∈ wsX5_firstEmpty := by decide +kernel
theorem fl_X5_firstEmpty_15 : Cond.fieldLink RX5 15 "BetweenBoth$Steps" (TX5 2).2.1 (TX5 2).2.2.1 ∈ wsX5_firstEmpty := by decide +kernel
theorem hd_X5_firstEmpty : yX5_firstEmpty.cls = RX5 ∧ yX5_firstEmpty.cls ≠ "java/lang/invoke/MethodHandle" ∧ yX5_firstEmpty.cls ≠ "java/lang/invoke/VarHandle" ∧ (parseMethodDescriptor yX5_firstEmpty.desc).map (fun d => d.parameters.length) = some 0 := by decide +kernel
def RT_X5_firstEmpty (p : Program) (l : Launch) (e : Env) (s : State) (m : MethodId) (args : Array Value) (below : List Frame) (meth : Method) (c : Code) (Q : State → Prop) (A : Nat → Prop) (G : va_G) (cI cJ cZ cO : ClassId) (a_this : Nat) (a_cells : Nat) (u_clauses_ : Value) (u_lettersOfA_ : Value) (u_lettersOfB_ : Value) (count_ : Int32) (cells_ : (Nat → Int32)) (res : Int32) : Prop := ∀ (v_ : Int32), some v_ = some res → ∀ (H : Heap) (locs : List Loc) (ls : Array Slot) (pc : Nat), decode cX5_firstEmpty pc = .ok (.ireturn, 1) → va_P G vwCl [(a_this, .inr (5, [.ref a_cells, u_clauses_, .int count_, u_lettersOfA_, u_lettersOfB_])), (a_cells, .inl (cI, 320, .inl cells_))] H → va_D A [(a_this, .inr (5, [.ref a_cells, u_clauses_, .int count_, u_lettersOfA_, u_lettersOfB_])), (a_cells, .inl (cI, 320, .inl cells_))] → va_S A s.heap H locs → W p l e ({ frames := 2, cells := 0, slots := 0, locals := 43 } : Room) s m args below meth c H locs 0 0 Q (F0 m pc ls [.int v_])
set_option maxHeartbeats 4000000 in
set_option maxRecDepth 100000 in
theorem wb_X5_firstEmpty_2 {p : Program} {l : Launch} {e : Env} {s : State} {m : MethodId} {args : Array Value} {below : List Frame} {meth : Method} {c : Code} {Q : State → Prop} {A : Nat → Prop} {G : va_G} {cI cJ cZ cO : ClassId} {tS : Nat} (a_this : Nat) (a_cells : Nat) (u_clauses_ : Value) (u_lettersOfA_ : Value) (u_lettersOfB_ : Value) (count_ : Int32) (cells_ : (Nat → Int32)) (hA : ∀ q : Nat, s.heap.size ≤ q → A q) (hK : va_K G vwCl (xTY cI cJ cZ cO) s) (hZ : xST tS A s) (M : CallFix p m c cX5_firstEmpty 2 s args wsX5_firstEmpty RX5) (res : Int32) (hR : RT_X5_firstEmpty p l e s m args below meth c Q A G cI cJ cZ cO a_this a_cells u_clauses_ u_lettersOfA_ u_lettersOfB_ count_ cells_ res)   (k2 : Int32 → Option (Int32)) (hk2 : ∀ (x1_ : Int32), k2 x1_ = some res → ∀ {H : Heap} {locs : List Loc} {ls : Array Slot}, va_P G vwCl [(a_this, .inr (5, [.ref a_cells, u_clauses_, .int count_, u_lettersOfA_, u_lettersOfB_])), (a_cells, .inl (cI, 320, .inl cells_))] H → va_D A [(a_this, .inr (5, [.ref a_cells, u_clauses_, .int count_, u_lettersOfA_, u_lettersOfB_])), (a_cells, .inl (cI, 320, .inl cells_))] → va_S A s.heap H locs → lv_has ls 2 [(0, .ref a_this), (1, .int x1_)] → W p l e ({ frames := 2, cells := 0, slots := 0, locals := 43 } : Room) s m args below meth c H locs 0 0 Q (F0 m 2 ls [])) (x1_ : Int32) (hf : b_X5_firstEmpty_2 count_ cells_ k2 x1_ = some res) {H : Heap} {locs : List Loc} {ls : Array Slot} (hP : va_P G vwCl [(a_this, .inr (5, [.ref a_cells, u_clauses_, .int count_, u_lettersOfA_, u_lettersOfB_])), (a_cells, .inl (cI, 320, .inl cells_))] H) (hD : va_D A [(a_this, .inr (5, [.ref a_cells, u_clauses_, .int count_, u_lettersOfA_, u_lettersOfB_])), (a_cells, .inl (cI, 320, .inl cells_))]) (hS : va_S A s.heap H locs) (hl : lv_has ls 2 [(0, .ref a_this), (1, .int x1_)]) : W p l e ({ frames := 2, cells := 0, slots := 0, locals := 43 } : Room) s m args below meth c H locs 0 0 Q (F0 m 2 ls []) := by
  obtain ⟨hx, hb, hml, hown, hts⟩ := id M
  unfold b_X5_firstEmpty_2 at hf
  refine lv_iload_n hx hb dX5_firstEmpty_2 rfl (lv_at hl 1 rfl) ?_
  refine lv_aload_n hx hb dX5_firstEmpty_3 rfl (lv_at hl 0 rfl) ?_
  refine xget M (C := RX5) (T := TX5) (N := 5) (ci := 5) (v := .int count_) uw_X5_firstEmpty_X5 hK hP 0 rfl rfl 2 (by decide) fl_X5_firstEmpty_15 rfl rfl dX5_firstEmpty_4 ?_
  refine lv_icmp_ge (tgt := 26) hx hb dX5_firstEmpty_7 (by decide) (fun hc1 => ?_) (fun hc1 => ?_)
  · have hf := oI_t hc1 hf
    refine lv_iconst (v := (-1 : Int32)) hx hb dX5_firstEmpty_26 (by decide) ?_
    exact hR _ hf _ _ _ _ dX5_firstEmpty_27 hP hD hS
  · have hf := oI_f hc1 hf
    refine lv_aload_n hx hb dX5_firstEmpty_10 rfl (lv_at hl 0 rfl) ?_
    refine lv_iload_n hx hb dX5_firstEmpty_11 rfl (lv_at hl 1 rfl) ?_
    obtain ⟨r2, hq3, hf⟩ := oB1_e hf
    refine xci (wr := []) (ws' := fun _ => [(a_this, .inr (5, [.ref a_cells, u_clauses_, .int count_, u_lettersOfA_, u_lettersOfB_])), (a_cells, .inl (cI, 320, .inl cells_))]) hA hP hD hS (xrV (As := [.int x1_]) (rest := []) M hA hK hZ hP hD hS (c_X5_isEmpty l G cI cJ cZ cO tS H.size a_this a_cells (u_clauses_) (.int count_) (u_lettersOfA_) (u_lettersOfB_) cells_ x1_ r2 hq3) (cwV 1 hts gX5_firstEmpty_X5_isEmpty rfl rfl rfl hd_X5_isEmpty ⟨Nat.le_of_ble_eq_true rfl, Nat.le_of_ble_eq_true rfl⟩) [0, 1] rfl rfl 0 rfl rfl rfl hl.1 rfl (Nat.le_of_ble_eq_true rfl) dX5_firstEmpty_12 ⟨Nat.le_of_ble_eq_true rfl, Nat.le_of_ble_eq_true rfl⟩) [0, 1] [] [0, 1] rfl rfl rfl rfl (fun _ => rfl) rfl (fun _ H locs hP hD hS => ?_)
    refine lv_if_eq (tgt := 20) hx hb dX5_firstEmpty_15 (by decide) (fun hc4 => ?_) (fun hc4 => ?_)
    · have hf := oI_t hc4 hf
      obtain ⟨x1_5, ex1_5, hf⟩ := oL_e hf
      refine lv_iinc (v := x1_5) (lv' := [(1, .int x1_5), (0, .ref a_this)]) hx hb dX5_firstEmpty_20 hl (k := 1) rfl (by rw [← ex1_5]; rfl) (by decide) rfl (fun ls hl => ?_)
      refine lv_goto (tgt := 2) hx hb dX5_firstEmpty_23 (by decide) ?_
      exact hk2 _ hf hP hD hS (lv_sub hl [1, 0] rfl)
    · have hf := oI_f hc4 hf
      refine lv_iload_n hx hb dX5_firstEmpty_18 rfl (lv_at hl 1 rfl) ?_
      exact hR _ hf _ _ _ _ dX5_firstEmpty_19 hP hD hS
set_option maxHeartbeats 4000000 in
set_option maxRecDepth 100000 in
theorem wl_X5_firstEmpty_2 {p : Program} {l : Launch} {e : Env} {s : State} {m : MethodId} {args : Array Value} {below : List Frame} {meth : Method} {c : Code} {Q : State → Prop} {A : Nat → Prop} {G : va_G} {cI cJ cZ cO : ClassId} {tS : Nat} (a_this : Nat) (a_cells : Nat) (u_clauses_ : Value) (u_lettersOfA_ : Value) (u_lettersOfB_ : Value) (count_ : Int32) (cells_ : (Nat → Int32)) (hA : ∀ q : Nat, s.heap.size ≤ q → A q) (hK : va_K G vwCl (xTY cI cJ cZ cO) s) (hZ : xST tS A s) (M : CallFix p m c cX5_firstEmpty 2 s args wsX5_firstEmpty RX5) (res : Int32) (hR : RT_X5_firstEmpty p l e s m args below meth c Q A G cI cJ cZ cO a_this a_cells u_clauses_ u_lettersOfA_ u_lettersOfB_ count_ cells_ res)   (n : Nat) : ∀ (x1_ : Int32), oF (fun k z => b_X5_firstEmpty_2 count_ cells_ k z) n x1_ = some res → ∀ {H : Heap} {locs : List Loc} {ls : Array Slot}, va_P G vwCl [(a_this, .inr (5, [.ref a_cells, u_clauses_, .int count_, u_lettersOfA_, u_lettersOfB_])), (a_cells, .inl (cI, 320, .inl cells_))] H → va_D A [(a_this, .inr (5, [.ref a_cells, u_clauses_, .int count_, u_lettersOfA_, u_lettersOfB_])), (a_cells, .inl (cI, 320, .inl cells_))] → va_S A s.heap H locs → lv_has ls 2 [(0, .ref a_this), (1, .int x1_)] → W p l e ({ frames := 2, cells := 0, slots := 0, locals := 43 } : Room) s m args below meth c H locs 0 0 Q (F0 m 2 ls []) := by
  induction n with
  | zero => intro x1_ hf; cases hf
  | succ n ih =>
    intro x1_ hf H locs ls hP hD hS hl
    exact wb_X5_firstEmpty_2 a_this a_cells u_clauses_ u_lettersOfA_ u_lettersOfB_ count_ cells_ hA hK hZ M res hR   _ ih x1_ hf hP hD hS hl
set_option maxHeartbeats 4000000 in
set_option maxRecDepth 100000 in
theorem w_X5_firstEmpty_0 {p : Program} {l : Launch} {e : Env} {s : State} {m : MethodId} {args : Array Value} {below : List Frame} {meth : Method} {c : Code} {Q : State → Prop} {A : Nat → Prop} {G : va_G} {cI cJ cZ cO : ClassId} {tS : Nat} (a_this : Nat) (a_cells : Nat) (u_clauses_ : Value) (u_lettersOfA_ : Value) (u_lettersOfB_ : Value) (count_ : Int32) (cells_ : (Nat → Int32)) (hA : ∀ q : Nat, s.heap.size ≤ q → A q) (hK : va_K G vwCl (xTY cI cJ cZ cO) s) (hZ : xST tS A s) (M : CallFix p m c cX5_firstEmpty 2 s args wsX5_firstEmpty RX5) (res : Int32) (hR : RT_X5_firstEmpty p l e s m args below meth c Q A G cI cJ cZ cO a_this a_cells u_clauses_ u_lettersOfA_ u_lettersOfB_ count_ cells_ res)   (hf : f_X5_firstEmpty count_ cells_ = some res) {H : Heap} {locs : List Loc} {ls : Array Slot} (hP : va_P G vwCl [(a_this, .inr (5, [.ref a_cells, u_clauses_, .int count_, u_lettersOfA_, u_lettersOfB_])), (a_cells, .inl (cI, 320, .inl cells_))] H) (hD : va_D A [(a_this, .inr (5, [.ref a_cells, u_clauses_, .int count_, u_lettersOfA_, u_lettersOfB_])), (a_cells, .inl (cI, 320, .inl cells_))]) (hS : va_S A s.heap H locs) (hl : lv_has ls 2 [(0, .ref a_this)]) : W p l e ({ frames := 2, cells := 0, slots := 0, locals := 43 } : Room) s m args below meth c H locs 0 0 Q (F0 m 0 ls []) := by
  obtain ⟨hx, hb, hml, hown, hts⟩ := id M
  unfold f_X5_firstEmpty at hf
  refine lv_iconst (v := (0 : Int32)) hx hb dX5_firstEmpty_0 (by decide) ?_
  refine lv_istore_n (lv' := [(1, .int (0 : Int32)), (0, .ref a_this)]) hx hb dX5_firstEmpty_1 rfl hl (by decide) rfl (fun ls hl => ?_)
  exact wl_X5_firstEmpty_2 a_this a_cells u_clauses_ u_lettersOfA_ u_lettersOfB_ count_ cells_ hA hK hZ M res hR   xN (0 : Int32) hf hP hD hS (lv_sub hl [1, 0] rfl)
set_option maxHeartbeats 4000000 in
set_option maxRecDepth 100000 in
theorem c_X5_firstEmpty (l : Launch) (G : va_G) (cI cJ cZ cO : ClassId) (tS sz : Nat) (a_this : Nat) (a_cells : Nat) (u_clauses_ : Value) (u_lettersOfA_ : Value) (u_lettersOfB_ : Value) (count_ : Int32) (cells_ : (Nat → Int32))  (v_ : Int32) (hf : f_X5_firstEmpty count_ cells_ = some v_) : Met l yX5_firstEmpty wsX5_firstEmpty ({ frames := 2, cells := 0, slots := 0, locals := 43 } : Room) (xPre G (xTY cI cJ cZ cO) tS [(a_this, .inr (5, [.ref a_cells, u_clauses_, .int count_, u_lettersOfA_, u_lettersOfB_])), (a_cells, .inl (cI, 320, .inl cells_))] sz [.ref a_this]) (xQi G [(a_this, .inr (5, [.ref a_cells, u_clauses_, .int count_, u_lettersOfA_, u_lettersOfB_])), (a_cells, .inl (cI, 320, .inl cells_))] sz (fun _ : Unit => [(a_this, .inr (5, [.ref a_cells, u_clauses_, .int count_, u_lettersOfA_, u_lettersOfB_])), (a_cells, .inl (cI, 320, .inl cells_))]) v_) 0 0 (va_A [(a_this, .inr (5, [.ref a_cells, u_clauses_, .int count_, u_lettersOfA_, u_lettersOfB_])), (a_cells, .inl (cI, 320, .inl cells_))] sz) := by
  refine xMet (cc := cX5_firstEmpty) (maxL := 2) (ret := (some .int)) (own := RX5) (by decide +kernel) rfl rfl (Nat.le_of_ble_eq_true rfl) rfl ?_
  intro p e s m below meth c ls M hr hlk hin hsz hA hK hZ hP hD hl
  refine w_X5_firstEmpty_0 a_this a_cells u_clauses_ u_lettersOfA_ u_lettersOfB_ count_ cells_ hA hK hZ M v_ (fun v_' hres H locs ls pc hd hP hD hS => ?_)   hf hP hD va_S.rf hl
  cases hres
  exact xreti (W1 := fun _ : Unit => [(a_this, .inr (5, [.ref a_cells, u_clauses_, .int count_, u_lettersOfA_, u_lettersOfB_])), (a_cells, .inl (cI, 320, .inl cells_))]) M hr hlk () hP hD hS hd
/-! BetweenBoth$Steps.madeButNotFor(I)I -/
theorem uw_X5_madeButNotFor_X5 : ∀ w ∈ u_ws RX5 TX5 5, w ∈ wsX5_madeButNotFor := by decide +kernel
theorem fl_X5_madeButNotFor_19 : Cond.fieldLink RX5 19 "BetweenBoth$Steps" (TX5 1).2.1 (TX5 1).2.2.1 ∈ wsX5_madeButNotFor := by decide +kernel
theorem fl_X5_madeButNotFor_15 : Cond.fieldLink RX5 15 "BetweenBoth$Steps" (TX5 2).2.1 (TX5 2).2.2.1 ∈ wsX5_madeButNotFor := by decide +kernel
theorem hd_X5_madeButNotFor : yX5_madeButNotFor.cls = RX5 ∧ yX5_madeButNotFor.cls ≠ "java/lang/invoke/MethodHandle" ∧ yX5_madeButNotFor.cls ≠ "java/lang/invoke/VarHandle" ∧ (parseMethodDescriptor yX5_madeButNotFor.desc).map (fun d => d.parameters.length) = some 1 := by decide +kernel
def RT_X5_madeButNotFor (p : Program) (l : Launch) (e : Env) (s : State) (m : MethodId) (args : Array Value) (below : List Frame) (meth : Method) (c : Code) (Q : State → Prop) (A : Nat → Prop) (G : va_G) (cI cJ cZ cO : ClassId) (a_this : Nat) (a_cells : Nat) (u_lettersOfA_ : Value) (u_lettersOfB_ : Value) (clauses_ : Int32) (count_ : Int32) (cells_ : (Nat → Int32)) (res : Int32) : Prop := ∀ (v_ : Int32), some v_ = some res → ∀ (H : Heap) (locs : List Loc) (ls : Array Slot) (pc : Nat), decode cX5_madeButNotFor pc = .ok (.ireturn, 1) → va_P G vwCl [(a_this, .inr (5, [.ref a_cells, .int clauses_, .int count_, u_lettersOfA_, u_lettersOfB_])), (a_cells, .inl (cI, 320, .inl cells_))] H → va_D A [(a_this, .inr (5, [.ref a_cells, .int clauses_, .int count_, u_lettersOfA_, u_lettersOfB_])), (a_cells, .inl (cI, 320, .inl cells_))] → va_S A s.heap H locs → W p l e ({ frames := 1, cells := 0, slots := 0, locals := 22 } : Room) s m args below meth c H locs 0 0 Q (F0 m pc ls [.int v_])
set_option maxHeartbeats 4000000 in
set_option maxRecDepth 100000 in
theorem w_X5_madeButNotFor_55 {p : Program} {l : Launch} {e : Env} {s : State} {m : MethodId} {args : Array Value} {below : List Frame} {meth : Method} {c : Code} {Q : State → Prop} {A : Nat → Prop} {G : va_G} {cI cJ cZ cO : ClassId} {tS : Nat} (a_this : Nat) (a_cells : Nat) (u_lettersOfA_ : Value) (u_lettersOfB_ : Value) (clauses_ : Int32) (count_ : Int32) (cells_ : (Nat → Int32)) (hA : ∀ q : Nat, s.heap.size ≤ q → A q) (hK : va_K G vwCl (xTY cI cJ cZ cO) s) (hZ : xST tS A s) (M : CallFix p m c cX5_madeButNotFor 6 s args wsX5_madeButNotFor RX5) (res : Int32) (hR : RT_X5_madeButNotFor p l e s m args below meth c Q A G cI cJ cZ cO a_this a_cells u_lettersOfA_ u_lettersOfB_ clauses_ count_ cells_ res) (x2_ : Int64) (x4_ : Int32) (x5_ : Int32) (k10 : (Int64 × Int32 × Int32) → Option (Int32)) (hk10 : ∀ (x2_ : Int64) (x4_ : Int32) (x5_ : Int32), k10 (x2_, x4_, x5_) = some res → ∀ {H : Heap} {locs : List Loc} {ls : Array Slot}, va_P G vwCl [(a_this, .inr (5, [.ref a_cells, .int clauses_, .int count_, u_lettersOfA_, u_lettersOfB_])), (a_cells, .inl (cI, 320, .inl cells_))] H → va_D A [(a_this, .inr (5, [.ref a_cells, .int clauses_, .int count_, u_lettersOfA_, u_lettersOfB_])), (a_cells, .inl (cI, 320, .inl cells_))] → va_S A s.heap H locs → lv_has ls 6 [(0, .ref a_this), (2, .long x2_), (4, .int x4_), (5, .int x5_)] → W p l e ({ frames := 1, cells := 0, slots := 0, locals := 22 } : Room) s m args below meth c H locs 0 0 Q (F0 m 10 ls [])) (hf : f_X5_madeButNotFor_55 x2_ x4_ x5_ k10 = some res) {H : Heap} {locs : List Loc} {ls : Array Slot} (hP : va_P G vwCl [(a_this, .inr (5, [.ref a_cells, .int clauses_, .int count_, u_lettersOfA_, u_lettersOfB_])), (a_cells, .inl (cI, 320, .inl cells_))] H) (hD : va_D A [(a_this, .inr (5, [.ref a_cells, .int clauses_, .int count_, u_lettersOfA_, u_lettersOfB_])), (a_cells, .inl (cI, 320, .inl cells_))]) (hS : va_S A s.heap H locs) (hl : lv_has ls 6 [(0, .ref a_this), (2, .long x2_), (4, .int x4_), (5, .int x5_)]) : W p l e ({ frames := 1, cells := 0, slots := 0, locals := 22 } : Room) s m args below meth c H locs 0 0 Q (F0 m 55 ls []) := by
  obtain ⟨hx, hb, hml, hown, hts⟩ := id M
  unfold f_X5_madeButNotFor_55 at hf
  obtain ⟨x5_1, ex5_1, hf⟩ := oL_e hf
  refine lv_iinc (v := x5_1) (lv' := [(5, .int x5_1), (0, .ref a_this), (2, .long x2_), (4, .int x4_)]) hx hb dX5_madeButNotFor_55 hl (k := 3) rfl (by rw [← ex5_1]; rfl) (by decide) rfl (fun ls hl => ?_)
  refine lv_goto (tgt := 10) hx hb dX5_madeButNotFor_58 (by decide) ?_
  exact hk10 _ _ _ hf hP hD hS (lv_sub hl [1, 2, 3, 0] rfl)
set_option maxHeartbeats 4000000 in
set_option maxRecDepth 100000 in
theorem wb_X5_madeButNotFor_10 {p : Program} {l : Launch} {e : Env} {s : State} {m : MethodId} {args : Array Value} {below : List Frame} {meth : Method} {c : Code} {Q : State → Prop} {A : Nat → Prop} {G : va_G} {cI cJ cZ cO : ClassId} {tS : Nat} (a_this : Nat) (a_cells : Nat) (u_lettersOfA_ : Value) (u_lettersOfB_ : Value) (clauses_ : Int32) (count_ : Int32) (cells_ : (Nat → Int32)) (hA : ∀ q : Nat, s.heap.size ≤ q → A q) (hK : va_K G vwCl (xTY cI cJ cZ cO) s) (hZ : xST tS A s) (M : CallFix p m c cX5_madeButNotFor 6 s args wsX5_madeButNotFor RX5) (res : Int32) (hR : RT_X5_madeButNotFor p l e s m args below meth c Q A G cI cJ cZ cO a_this a_cells u_lettersOfA_ u_lettersOfB_ clauses_ count_ cells_ res)   (k10 : (Int64 × Int32 × Int32) → Option (Int32)) (hk10 : ∀ (x2_ : Int64) (x4_ : Int32) (x5_ : Int32), k10 (x2_, x4_, x5_) = some res → ∀ {H : Heap} {locs : List Loc} {ls : Array Slot}, va_P G vwCl [(a_this, .inr (5, [.ref a_cells, .int clauses_, .int count_, u_lettersOfA_, u_lettersOfB_])), (a_cells, .inl (cI, 320, .inl cells_))] H → va_D A [(a_this, .inr (5, [.ref a_cells, .int clauses_, .int count_, u_lettersOfA_, u_lettersOfB_])), (a_cells, .inl (cI, 320, .inl cells_))] → va_S A s.heap H locs → lv_has ls 6 [(0, .ref a_this), (2, .long x2_), (4, .int x4_), (5, .int x5_)] → W p l e ({ frames := 1, cells := 0, slots := 0, locals := 22 } : Room) s m args below meth c H locs 0 0 Q (F0 m 10 ls [])) (x2_ : Int64) (x4_ : Int32) (x5_ : Int32) (hf : b_X5_madeButNotFor_10 clauses_ count_ cells_ k10 x2_ x4_ x5_ = some res) {H : Heap} {locs : List Loc} {ls : Array Slot} (hP : va_P G vwCl [(a_this, .inr (5, [.ref a_cells, .int clauses_, .int count_, u_lettersOfA_, u_lettersOfB_])), (a_cells, .inl (cI, 320, .inl cells_))] H) (hD : va_D A [(a_this, .inr (5, [.ref a_cells, .int clauses_, .int count_, u_lettersOfA_, u_lettersOfB_])), (a_cells, .inl (cI, 320, .inl cells_))]) (hS : va_S A s.heap H locs) (hl : lv_has ls 6 [(0, .ref a_this), (2, .long x2_), (4, .int x4_), (5, .int x5_)]) : W p l e ({ frames := 1, cells := 0, slots := 0, locals := 22 } : Room) s m args below meth c H locs 0 0 Q (F0 m 10 ls []) := by
  obtain ⟨hx, hb, hml, hown, hts⟩ := id M
  unfold b_X5_madeButNotFor_10 at hf
  refine lv_iload hx hb dX5_madeButNotFor_10 (lv_at hl 3 rfl) ?_
  refine lv_aload_n hx hb dX5_madeButNotFor_12 rfl (lv_at hl 0 rfl) ?_
  refine xget M (C := RX5) (T := TX5) (N := 5) (ci := 5) (v := .int clauses_) uw_X5_madeButNotFor_X5 hK hP 0 rfl rfl 1 (by decide) fl_X5_madeButNotFor_19 rfl rfl dX5_madeButNotFor_13 ?_
  refine lv_icmp_lt (tgt := 61) hx hb dX5_madeButNotFor_16 (by decide) (fun hc1 => ?_) (fun hc1 => ?_)
  · have hf := oI_t hc1 hf
    refine lv_aload_n hx hb dX5_madeButNotFor_61 rfl (lv_at hl 0 rfl) ?_
    refine xget M (C := RX5) (T := TX5) (N := 5) (ci := 5) (v := .int count_) uw_X5_madeButNotFor_X5 hK hP 0 rfl rfl 2 (by decide) fl_X5_madeButNotFor_15 rfl rfl dX5_madeButNotFor_62 ?_
    refine lv_aload_n hx hb dX5_madeButNotFor_65 rfl (lv_at hl 0 rfl) ?_
    refine xget M (C := RX5) (T := TX5) (N := 5) (ci := 5) (v := .int clauses_) uw_X5_madeButNotFor_X5 hK hP 0 rfl rfl 1 (by decide) fl_X5_madeButNotFor_19 rfl rfl dX5_madeButNotFor_66 ?_
    refine lv_isub hx hb dX5_madeButNotFor_69 ?_
    refine lv_iload hx hb dX5_madeButNotFor_70 (lv_at hl 2 rfl) ?_
    refine lv_isub hx hb dX5_madeButNotFor_72 ?_
    exact hR _ hf _ _ _ _ dX5_madeButNotFor_73 hP hD hS
  · have hf := oI_f hc1 hf
    refine lv_lload_n hx hb dX5_madeButNotFor_19 rfl (lv_at hl 1 rfl) ?_
    refine lv_iload hx hb dX5_madeButNotFor_20 (lv_at hl 3 rfl) ?_
    refine lv_lshr (v := (x2_ >>> (x5_.toInt64 &&& 63))) hx hb dX5_madeButNotFor_22 rfl ?_
    refine lv_lconst (v := (1 : Int64)) hx hb dX5_madeButNotFor_23 (by decide) ?_
    refine lv_land hx hb dX5_madeButNotFor_24 ?_
    refine lv_lconst (v := (1 : Int64)) hx hb dX5_madeButNotFor_25 (by decide) ?_
    refine W.lcmp hx hb dX5_madeButNotFor_26 ?_
    refine lv_if_ne (tgt := 55) hx hb dX5_madeButNotFor_27 (by decide) (fun hc2 => ?_) (fun hc2 => ?_)
    · have hf := oI_f hc2 hf
      exact w_X5_madeButNotFor_55 a_this a_cells u_lettersOfA_ u_lettersOfB_ clauses_ count_ cells_ hA hK hZ M res hR x2_ x4_ x5_ k10 hk10 hf hP hD hS (lv_sub hl [0, 1, 2, 3] rfl)
    · have hf := oI_t hc2 hf
      refine lv_lload_n hx hb dX5_madeButNotFor_30 rfl (lv_at hl 1 rfl) ?_
      refine lv_lconst (v := (1 : Int64)) hx hb dX5_madeButNotFor_31 (by decide) ?_
      refine lv_aload_n hx hb dX5_madeButNotFor_32 rfl (lv_at hl 0 rfl) ?_
      refine lv_iload hx hb dX5_madeButNotFor_33 (lv_at hl 3 rfl) ?_
      refine lv_iconst (v := (3 : Int32)) hx hb dX5_madeButNotFor_35 (by decide) ?_
      obtain ⟨r3, hq4, hf⟩ := oB1_e hf
      refine xci (wr := []) (ws' := fun _ => [(a_this, .inr (5, [.ref a_cells, .int clauses_, .int count_, u_lettersOfA_, u_lettersOfB_])), (a_cells, .inl (cI, 320, .inl cells_))]) hA hP hD hS (xrV (As := [.int x5_, .int (3 : Int32)]) (rest := [.long (1 : Int64), .long x2_]) M hA hK hZ hP hD hS (c_X5_cell l G cI cJ cZ cO tS H.size a_this a_cells (.int clauses_) (.int count_) (u_lettersOfA_) (u_lettersOfB_) cells_ x5_ (3 : Int32) r3 hq4) (cwV 2 hts gX5_madeButNotFor_X5_cell rfl rfl rfl hd_X5_cell ⟨Nat.le_of_ble_eq_true rfl, Nat.le_of_ble_eq_true rfl⟩) [0, 1] rfl rfl 0 rfl rfl rfl hl.1 rfl (Nat.le_of_ble_eq_true rfl) dX5_madeButNotFor_36 ⟨Nat.le_of_ble_eq_true rfl, Nat.le_of_ble_eq_true rfl⟩) [0, 1] [] [0, 1] rfl rfl rfl rfl (fun _ => rfl) rfl (fun _ H locs hP hD hS => ?_)
      refine lv_lshl (v := ((1 : Int64) <<< (r3.toInt64 &&& 63))) hx hb dX5_madeButNotFor_39 rfl ?_
      refine lv_lconst (v := (1 : Int64)) hx hb dX5_madeButNotFor_40 (by decide) ?_
      refine lv_aload_n hx hb dX5_madeButNotFor_41 rfl (lv_at hl 0 rfl) ?_
      refine lv_iload hx hb dX5_madeButNotFor_42 (lv_at hl 3 rfl) ?_
      refine lv_iconst (v := (4 : Int32)) hx hb dX5_madeButNotFor_44 (by decide) ?_
      obtain ⟨r5, hq6, hf⟩ := oB1_e hf
      refine xci (wr := []) (ws' := fun _ => [(a_this, .inr (5, [.ref a_cells, .int clauses_, .int count_, u_lettersOfA_, u_lettersOfB_])), (a_cells, .inl (cI, 320, .inl cells_))]) hA hP hD hS (xrV (As := [.int x5_, .int (4 : Int32)]) (rest := [.long (1 : Int64), .long ((1 : Int64) <<< (r3.toInt64 &&& 63)), .long x2_]) M hA hK hZ hP hD hS (c_X5_cell l G cI cJ cZ cO tS H.size a_this a_cells (.int clauses_) (.int count_) (u_lettersOfA_) (u_lettersOfB_) cells_ x5_ (4 : Int32) r5 hq6) (cwV 2 hts gX5_madeButNotFor_X5_cell rfl rfl rfl hd_X5_cell ⟨Nat.le_of_ble_eq_true rfl, Nat.le_of_ble_eq_true rfl⟩) [0, 1] rfl rfl 0 rfl rfl rfl hl.1 rfl (Nat.le_of_ble_eq_true rfl) dX5_madeButNotFor_45 ⟨Nat.le_of_ble_eq_true rfl, Nat.le_of_ble_eq_true rfl⟩) [0, 1] [] [0, 1] rfl rfl rfl rfl (fun _ => rfl) rfl (fun _ H locs hP hD hS => ?_)
      refine lv_lshl (v := ((1 : Int64) <<< (r5.toInt64 &&& 63))) hx hb dX5_madeButNotFor_48 rfl ?_
      refine lv_lor hx hb dX5_madeButNotFor_49 ?_
      refine lv_lor hx hb dX5_madeButNotFor_50 ?_
      obtain ⟨x2_7, ex2_7, hf⟩ := oL_e hf
      refine xtopl ex2_7 ?_
      refine lv_lstore_n (lv' := [(2, .long x2_7), (0, .ref a_this), (4, .int x4_), (5, .int x5_)]) hx hb dX5_madeButNotFor_51 rfl hl (by decide) rfl (fun ls hl => ?_)
      obtain ⟨x4_8, ex4_8, hf⟩ := oL_e hf
      refine lv_iinc (v := x4_8) (lv' := [(4, .int x4_8), (2, .long x2_7), (0, .ref a_this), (5, .int x5_)]) hx hb dX5_madeButNotFor_52 hl (k := 2) rfl (by rw [← ex4_8]; rfl) (by decide) rfl (fun ls hl => ?_)
      exact w_X5_madeButNotFor_55 a_this a_cells u_lettersOfA_ u_lettersOfB_ clauses_ count_ cells_ hA hK hZ M res hR x2_7 x4_8 x5_ k10 hk10 hf hP hD hS (lv_sub hl [2, 1, 0, 3] rfl)
set_option maxHeartbeats 4000000 in
set_option maxRecDepth 100000 in
theorem wl_X5_madeButNotFor_10 {p : Program} {l : Launch} {e : Env} {s : State} {m : MethodId} {args : Array Value} {below : List Frame} {meth : Method} {c : Code} {Q : State → Prop} {A : Nat → Prop} {G : va_G} {cI cJ cZ cO : ClassId} {tS : Nat} (a_this : Nat) (a_cells : Nat) (u_lettersOfA_ : Value) (u_lettersOfB_ : Value) (clauses_ : Int32) (count_ : Int32) (cells_ : (Nat → Int32)) (hA : ∀ q : Nat, s.heap.size ≤ q → A q) (hK : va_K G vwCl (xTY cI cJ cZ cO) s) (hZ : xST tS A s) (M : CallFix p m c cX5_madeButNotFor 6 s args wsX5_madeButNotFor RX5) (res : Int32) (hR : RT_X5_madeButNotFor p l e s m args below meth c Q A G cI cJ cZ cO a_this a_cells u_lettersOfA_ u_lettersOfB_ clauses_ count_ cells_ res)   (n : Nat) : ∀ (x2_ : Int64) (x4_ : Int32) (x5_ : Int32), oF (fun k z => b_X5_madeButNotFor_10 clauses_ count_ cells_ k z.1 z.2.1 z.2.2) n (x2_, x4_, x5_) = some res → ∀ {H : Heap} {locs : List Loc} {ls : Array Slot}, va_P G vwCl [(a_this, .inr (5, [.ref a_cells, .int clauses_, .int count_, u_lettersOfA_, u_lettersOfB_])), (a_cells, .inl (cI, 320, .inl cells_))] H → va_D A [(a_this, .inr (5, [.ref a_cells, .int clauses_, .int count_, u_lettersOfA_, u_lettersOfB_])), (a_cells, .inl (cI, 320, .inl cells_))] → va_S A s.heap H locs → lv_has ls 6 [(0, .ref a_this), (2, .long x2_), (4, .int x4_), (5, .int x5_)] → W p l e ({ frames := 1, cells := 0, slots := 0, locals := 22 } : Room) s m args below meth c H locs 0 0 Q (F0 m 10 ls []) := by
  induction n with
  | zero => intro x2_ x4_ x5_ hf; cases hf
  | succ n ih =>
    intro x2_ x4_ x5_ hf H locs ls hP hD hS hl
    exact wb_X5_madeButNotFor_10 a_this a_cells u_lettersOfA_ u_lettersOfB_ clauses_ count_ cells_ hA hK hZ M res hR   _ ih x2_ x4_ x5_ hf hP hD hS hl
set_option maxHeartbeats 4000000 in
set_option maxRecDepth 100000 in
theorem w_X5_madeButNotFor_0 {p : Program} {l : Launch} {e : Env} {s : State} {m : MethodId} {args : Array Value} {below : List Frame} {meth : Method} {c : Code} {Q : State → Prop} {A : Nat → Prop} {G : va_G} {cI cJ cZ cO : ClassId} {tS : Nat} (a_this : Nat) (a_cells : Nat) (u_lettersOfA_ : Value) (u_lettersOfB_ : Value) (clauses_ : Int32) (count_ : Int32) (cells_ : (Nat → Int32)) (hA : ∀ q : Nat, s.heap.size ≤ q → A q) (hK : va_K G vwCl (xTY cI cJ cZ cO) s) (hZ : xST tS A s) (M : CallFix p m c cX5_madeButNotFor 6 s args wsX5_madeButNotFor RX5) (res : Int32) (hR : RT_X5_madeButNotFor p l e s m args below meth c Q A G cI cJ cZ cO a_this a_cells u_lettersOfA_ u_lettersOfB_ clauses_ count_ cells_ res)  (x1_ : Int32) (hf : f_X5_madeButNotFor clauses_ count_ cells_ x1_ = some res) {H : Heap} {locs : List Loc} {ls : Array Slot} (hP : va_P G vwCl [(a_this, .inr (5, [.ref a_cells, .int clauses_, .int count_, u_lettersOfA_, u_lettersOfB_])), (a_cells, .inl (cI, 320, .inl cells_))] H) (hD : va_D A [(a_this, .inr (5, [.ref a_cells, .int clauses_, .int count_, u_lettersOfA_, u_lettersOfB_])), (a_cells, .inl (cI, 320, .inl cells_))]) (hS : va_S A s.heap H locs) (hl : lv_has ls 6 [(0, .ref a_this), (1, .int x1_)]) : W p l e ({ frames := 1, cells := 0, slots := 0, locals := 22 } : Room) s m args below meth c H locs 0 0 Q (F0 m 0 ls []) := by
  obtain ⟨hx, hb, hml, hown, hts⟩ := id M
  unfold f_X5_madeButNotFor at hf
  refine lv_lconst (v := (1 : Int64)) hx hb dX5_madeButNotFor_0 (by decide) ?_
  refine lv_iload_n hx hb dX5_madeButNotFor_1 rfl (lv_at hl 1 rfl) ?_
  refine lv_lshl (v := ((1 : Int64) <<< (x1_.toInt64 &&& 63))) hx hb dX5_madeButNotFor_2 rfl ?_
  obtain ⟨x2_1, ex2_1, hf⟩ := oL_e hf
  refine xtopl ex2_1 ?_
  refine lv_lstore_n (lv' := [(2, .long x2_1), (0, .ref a_this), (1, .int x1_)]) hx hb dX5_madeButNotFor_3 rfl hl (by decide) rfl (fun ls hl => ?_)
  refine lv_iconst (v := (0 : Int32)) hx hb dX5_madeButNotFor_4 (by decide) ?_
  refine lv_istore (lv' := [(4, .int (0 : Int32)), (2, .long x2_1), (0, .ref a_this), (1, .int x1_)]) hx hb dX5_madeButNotFor_5 hl (by decide) rfl (fun ls hl => ?_)
  refine lv_iload_n hx hb dX5_madeButNotFor_7 rfl (lv_at hl 3 rfl) ?_
  refine lv_istore (lv' := [(5, .int x1_), (4, .int (0 : Int32)), (2, .long x2_1), (0, .ref a_this), (1, .int x1_)]) hx hb dX5_madeButNotFor_8 hl (by decide) rfl (fun ls hl => ?_)
  exact wl_X5_madeButNotFor_10 a_this a_cells u_lettersOfA_ u_lettersOfB_ clauses_ count_ cells_ hA hK hZ M res hR   xN x2_1 (0 : Int32) x1_ hf hP hD hS (lv_sub hl [3, 2, 1, 0] rfl)
set_option maxHeartbeats 4000000 in
set_option maxRecDepth 100000 in
theorem c_X5_madeButNotFor (l : Launch) (G : va_G) (cI cJ cZ cO : ClassId) (tS sz : Nat) (a_this : Nat) (a_cells : Nat) (u_lettersOfA_ : Value) (u_lettersOfB_ : Value) (clauses_ : Int32) (count_ : Int32) (cells_ : (Nat → Int32)) (x1_ : Int32) (v_ : Int32) (hf : f_X5_madeButNotFor clauses_ count_ cells_ x1_ = some v_) : Met l yX5_madeButNotFor wsX5_madeButNotFor ({ frames := 1, cells := 0, slots := 0, locals := 22 } : Room) (xPre G (xTY cI cJ cZ cO) tS [(a_this, .inr (5, [.ref a_cells, .int clauses_, .int count_, u_lettersOfA_, u_lettersOfB_])), (a_cells, .inl (cI, 320, .inl cells_))] sz [.ref a_this, .int x1_]) (xQi G [(a_this, .inr (5, [.ref a_cells, .int clauses_, .int count_, u_lettersOfA_, u_lettersOfB_])), (a_cells, .inl (cI, 320, .inl cells_))] sz (fun _ : Unit => [(a_this, .inr (5, [.ref a_cells, .int clauses_, .int count_, u_lettersOfA_, u_lettersOfB_])), (a_cells, .inl (cI, 320, .inl cells_))]) v_) 0 0 (va_A [(a_this, .inr (5, [.ref a_cells, .int clauses_, .int count_, u_lettersOfA_, u_lettersOfB_])), (a_cells, .inl (cI, 320, .inl cells_))] sz) := by
  refine xMet (cc := cX5_madeButNotFor) (maxL := 6) (ret := (some .int)) (own := RX5) (by decide +kernel) rfl rfl (Nat.le_of_ble_eq_true rfl) rfl ?_
  intro p e s m below meth c ls M hr hlk hin hsz hA hK hZ hP hD hl
  refine w_X5_madeButNotFor_0 a_this a_cells u_lettersOfA_ u_lettersOfB_ clauses_ count_ cells_ hA hK hZ M v_ (fun v_' hres H locs ls pc hd hP hD hS => ?_)  x1_ hf hP hD va_S.rf hl
  cases hres
  exact xreti (W1 := fun _ : Unit => [(a_this, .inr (5, [.ref a_cells, .int clauses_, .int count_, u_lettersOfA_, u_lettersOfB_])), (a_cells, .inl (cI, 320, .inl cells_))]) M hr hlk () hP hD hS hd
/-! BetweenBoth$Sums.add(IIIIII)I -/
theorem uw_X6_add_X6 : ∀ w ∈ u_ws RX6 TX6 8, w ∈ wsX6_add := by decide +kernel
theorem fl_X6_add_33 : Cond.fieldLink RX6 33 "BetweenBoth$Sums" (TX6 3).2.1 (TX6 3).2.2.1 ∈ wsX6_add := by decide +kernel
theorem fl_X6_add_11 : Cond.fieldLink RX6 11 "BetweenBoth$Sums" (TX6 0).2.1 (TX6 0).2.2.1 ∈ wsX6_add := by decide +kernel
theorem fl_X6_add_15 : Cond.fieldLink RX6 15 "BetweenBoth$Sums" (TX6 1).2.1 (TX6 1).2.2.1 ∈ wsX6_add := by decide +kernel
theorem fl_X6_add_18 : Cond.fieldLink RX6 18 "BetweenBoth$Sums" (TX6 2).2.1 (TX6 2).2.2.1 ∈ wsX6_add := by decide +kernel
theorem hd_X6_add : yX6_add.cls = RX6 ∧ yX6_add.cls ≠ "java/lang/invoke/MethodHandle" ∧ yX6_add.cls ≠ "java/lang/invoke/VarHandle" ∧ (parseMethodDescriptor yX6_add.desc).map (fun d => d.parameters.length) = some 6 := by decide +kernel
def RT_X6_add (p : Program) (l : Launch) (e : Env) (s : State) (m : MethodId) (args : Array Value) (below : List Frame) (meth : Method) (c : Code) (Q : State → Prop) (A : Nat → Prop) (G : va_G) (cI cJ cZ cO : ClassId) (a_this : Nat) (a_rows : Nat) (a_party : Nat) (a_weight : Nat) (u_tried_ : Value) (u_total_ : Value) (u_low_ : Value) (u_high_ : Value) (res : Int32 × (Nat → Int32) × (Nat → Int32) × (Nat → Int32) × Int32) : Prop := ∀ (v_ : Int32) (o_rows_ : (Nat → Int32)) (o_party_ : (Nat → Int32)) (o_weight_ : (Nat → Int32)) (o_count_ : Int32), some (v_, o_rows_, o_party_, o_weight_, o_count_) = some res → ∀ (H : Heap) (locs : List Loc) (ls : Array Slot) (pc : Nat), decode cX6_add pc = .ok (.ireturn, 1) → va_P G vwCl [(a_this, .inr (6, [.ref a_rows, .ref a_party, .ref a_weight, .int o_count_, u_tried_, u_total_, u_low_, u_high_])), (a_rows, .inl (cI, 40, .inl o_rows_)), (a_party, .inl (cI, 8, .inl o_party_)), (a_weight, .inl (cI, 8, .inl o_weight_))] H → va_D A [(a_this, .inr (6, [.ref a_rows, .ref a_party, .ref a_weight, .int o_count_, u_tried_, u_total_, u_low_, u_high_])), (a_rows, .inl (cI, 40, .inl o_rows_)), (a_party, .inl (cI, 8, .inl o_party_)), (a_weight, .inl (cI, 8, .inl o_weight_))] → va_S A s.heap H locs → W p l e ({ frames := 0, cells := 0, slots := 0, locals := 0 } : Room) s m args below meth c H locs 0 0 Q (F0 m pc ls [.int v_])
set_option maxHeartbeats 4000000 in
set_option maxRecDepth 100000 in
theorem w_X6_add_0 {p : Program} {l : Launch} {e : Env} {s : State} {m : MethodId} {args : Array Value} {below : List Frame} {meth : Method} {c : Code} {Q : State → Prop} {A : Nat → Prop} {G : va_G} {cI cJ cZ cO : ClassId} {tS : Nat} (a_this : Nat) (a_rows : Nat) (a_party : Nat) (a_weight : Nat) (u_tried_ : Value) (u_total_ : Value) (u_low_ : Value) (u_high_ : Value) (hA : ∀ q : Nat, s.heap.size ≤ q → A q) (hK : va_K G vwCl (xTY cI cJ cZ cO) s) (hZ : xST tS A s) (M : CallFix p m c cX6_add 8 s args wsX6_add RX6) (res : Int32 × (Nat → Int32) × (Nat → Int32) × (Nat → Int32) × Int32) (hR : RT_X6_add p l e s m args below meth c Q A G cI cJ cZ cO a_this a_rows a_party a_weight u_tried_ u_total_ u_low_ u_high_ res) (count_ : Int32) (rows_ : (Nat → Int32)) (party_ : (Nat → Int32)) (weight_ : (Nat → Int32)) (x1_ : Int32) (x2_ : Int32) (x3_ : Int32) (x4_ : Int32) (x5_ : Int32) (x6_ : Int32) (hf : f_X6_add count_ rows_ party_ weight_ x1_ x2_ x3_ x4_ x5_ x6_ = some res) {H : Heap} {locs : List Loc} {ls : Array Slot} (hP : va_P G vwCl [(a_this, .inr (6, [.ref a_rows, .ref a_party, .ref a_weight, .int count_, u_tried_, u_total_, u_low_, u_high_])), (a_rows, .inl (cI, 40, .inl rows_)), (a_party, .inl (cI, 8, .inl party_)), (a_weight, .inl (cI, 8, .inl weight_))] H) (hD : va_D A [(a_this, .inr (6, [.ref a_rows, .ref a_party, .ref a_weight, .int count_, u_tried_, u_total_, u_low_, u_high_])), (a_rows, .inl (cI, 40, .inl rows_)), (a_party, .inl (cI, 8, .inl party_)), (a_weight, .inl (cI, 8, .inl weight_))]) (hS : va_S A s.heap H locs) (hl : lv_has ls 8 [(0, .ref a_this), (1, .int x1_), (2, .int x2_), (3, .int x3_), (4, .int x4_), (5, .int x5_), (6, .int x6_)]) : W p l e ({ frames := 0, cells := 0, slots := 0, locals := 0 } : Room) s m args below meth c H locs 0 0 Q (F0 m 0 ls []) := by
  obtain ⟨hx, hb, hml, hown, hts⟩ := id M
  unfold f_X6_add at hf
  refine lv_aload_n hx hb dX6_add_0 rfl (lv_at hl 0 rfl) ?_
  refine xget M (C := RX6) (T := TX6) (N := 8) (ci := 6) (v := .int count_) uw_X6_add_X6 hK hP 0 rfl rfl 3 (by decide) fl_X6_add_33 rfl rfl dX6_add_1 ?_
  refine lv_iconst (v := (5 : Int32)) hx hb dX6_add_4 (by decide) ?_
  refine lv_imul hx hb dX6_add_5 ?_
  obtain ⟨x7_1, ex7_1, hf⟩ := oL_e hf
  refine xtopi ex7_1 ?_
  refine lv_istore (lv' := [(7, .int x7_1), (0, .ref a_this), (1, .int x1_), (2, .int x2_), (3, .int x3_), (4, .int x4_), (5, .int x5_), (6, .int x6_)]) hx hb dX6_add_6 hl (by decide) rfl (fun ls hl => ?_)
  refine lv_aload_n hx hb dX6_add_8 rfl (lv_at hl 1 rfl) ?_
  refine xget M (C := RX6) (T := TX6) (N := 8) (ci := 6) (v := .ref a_rows) uw_X6_add_X6 hK hP 0 rfl rfl 0 (by decide) fl_X6_add_11 rfl rfl dX6_add_9 ?_
  refine lv_iload hx hb dX6_add_12 (lv_at hl 0 rfl) ?_
  refine lv_iload_n hx hb dX6_add_14 rfl (lv_at hl 3 rfl) ?_
  obtain ⟨j2, hj2, hij2, hf⟩ := oA_e hf
  obtain ⟨rows_3, erows_3, hf⟩ := oL_e hf
  refine xiast M hK hP hD hS 1 0 rfl rfl hj2 hij2 erows_3 [(a_this, .inr (6, [.ref a_rows, .ref a_party, .ref a_weight, .int count_, u_tried_, u_total_, u_low_, u_high_])), (a_rows, .inl (cI, 40, .inl rows_3)), (a_party, .inl (cI, 8, .inl party_)), (a_weight, .inl (cI, 8, .inl weight_))] rfl dX6_add_15 (fun H locs hP hD hS => ?_)
  refine lv_aload_n hx hb dX6_add_16 rfl (lv_at hl 1 rfl) ?_
  refine xget M (C := RX6) (T := TX6) (N := 8) (ci := 6) (v := .ref a_rows) uw_X6_add_X6 hK hP 0 rfl rfl 0 (by decide) fl_X6_add_11 rfl rfl dX6_add_17 ?_
  refine lv_iload hx hb dX6_add_20 (lv_at hl 0 rfl) ?_
  refine lv_iconst (v := (1 : Int32)) hx hb dX6_add_22 (by decide) ?_
  refine lv_iadd hx hb dX6_add_23 ?_
  refine lv_iload_n hx hb dX6_add_24 rfl (lv_at hl 4 rfl) ?_
  obtain ⟨j4, hj4, hij4, hf⟩ := oA_e hf
  obtain ⟨rows_5, erows_5, hf⟩ := oL_e hf
  refine xiast M hK hP hD hS 1 0 rfl rfl hj4 hij4 erows_5 [(a_this, .inr (6, [.ref a_rows, .ref a_party, .ref a_weight, .int count_, u_tried_, u_total_, u_low_, u_high_])), (a_rows, .inl (cI, 40, .inl rows_5)), (a_party, .inl (cI, 8, .inl party_)), (a_weight, .inl (cI, 8, .inl weight_))] rfl dX6_add_25 (fun H locs hP hD hS => ?_)
  refine lv_aload_n hx hb dX6_add_26 rfl (lv_at hl 1 rfl) ?_
  refine xget M (C := RX6) (T := TX6) (N := 8) (ci := 6) (v := .ref a_rows) uw_X6_add_X6 hK hP 0 rfl rfl 0 (by decide) fl_X6_add_11 rfl rfl dX6_add_27 ?_
  refine lv_iload hx hb dX6_add_30 (lv_at hl 0 rfl) ?_
  refine lv_iconst (v := (2 : Int32)) hx hb dX6_add_32 (by decide) ?_
  refine lv_iadd hx hb dX6_add_33 ?_
  refine lv_iload hx hb dX6_add_34 (lv_at hl 5 rfl) ?_
  obtain ⟨j6, hj6, hij6, hf⟩ := oA_e hf
  obtain ⟨rows_7, erows_7, hf⟩ := oL_e hf
  refine xiast M hK hP hD hS 1 0 rfl rfl hj6 hij6 erows_7 [(a_this, .inr (6, [.ref a_rows, .ref a_party, .ref a_weight, .int count_, u_tried_, u_total_, u_low_, u_high_])), (a_rows, .inl (cI, 40, .inl rows_7)), (a_party, .inl (cI, 8, .inl party_)), (a_weight, .inl (cI, 8, .inl weight_))] rfl dX6_add_36 (fun H locs hP hD hS => ?_)
  refine lv_aload_n hx hb dX6_add_37 rfl (lv_at hl 1 rfl) ?_
  refine xget M (C := RX6) (T := TX6) (N := 8) (ci := 6) (v := .ref a_rows) uw_X6_add_X6 hK hP 0 rfl rfl 0 (by decide) fl_X6_add_11 rfl rfl dX6_add_38 ?_
  refine lv_iload hx hb dX6_add_41 (lv_at hl 0 rfl) ?_
  refine lv_iconst (v := (3 : Int32)) hx hb dX6_add_43 (by decide) ?_
  refine lv_iadd hx hb dX6_add_44 ?_
  refine lv_iload hx hb dX6_add_45 (lv_at hl 6 rfl) ?_
  obtain ⟨j8, hj8, hij8, hf⟩ := oA_e hf
  obtain ⟨rows_9, erows_9, hf⟩ := oL_e hf
  refine xiast M hK hP hD hS 1 0 rfl rfl hj8 hij8 erows_9 [(a_this, .inr (6, [.ref a_rows, .ref a_party, .ref a_weight, .int count_, u_tried_, u_total_, u_low_, u_high_])), (a_rows, .inl (cI, 40, .inl rows_9)), (a_party, .inl (cI, 8, .inl party_)), (a_weight, .inl (cI, 8, .inl weight_))] rfl dX6_add_47 (fun H locs hP hD hS => ?_)
  refine lv_aload_n hx hb dX6_add_48 rfl (lv_at hl 1 rfl) ?_
  refine xget M (C := RX6) (T := TX6) (N := 8) (ci := 6) (v := .ref a_rows) uw_X6_add_X6 hK hP 0 rfl rfl 0 (by decide) fl_X6_add_11 rfl rfl dX6_add_49 ?_
  refine lv_iload hx hb dX6_add_52 (lv_at hl 0 rfl) ?_
  refine lv_iconst (v := (4 : Int32)) hx hb dX6_add_54 (by decide) ?_
  refine lv_iadd hx hb dX6_add_55 ?_
  refine lv_iload hx hb dX6_add_56 (lv_at hl 7 rfl) ?_
  obtain ⟨j10, hj10, hij10, hf⟩ := oA_e hf
  obtain ⟨rows_11, erows_11, hf⟩ := oL_e hf
  refine xiast M hK hP hD hS 1 0 rfl rfl hj10 hij10 erows_11 [(a_this, .inr (6, [.ref a_rows, .ref a_party, .ref a_weight, .int count_, u_tried_, u_total_, u_low_, u_high_])), (a_rows, .inl (cI, 40, .inl rows_11)), (a_party, .inl (cI, 8, .inl party_)), (a_weight, .inl (cI, 8, .inl weight_))] rfl dX6_add_58 (fun H locs hP hD hS => ?_)
  refine lv_aload_n hx hb dX6_add_59 rfl (lv_at hl 1 rfl) ?_
  refine xget M (C := RX6) (T := TX6) (N := 8) (ci := 6) (v := .ref a_party) uw_X6_add_X6 hK hP 0 rfl rfl 1 (by decide) fl_X6_add_15 rfl rfl dX6_add_60 ?_
  refine lv_aload_n hx hb dX6_add_63 rfl (lv_at hl 1 rfl) ?_
  refine xget M (C := RX6) (T := TX6) (N := 8) (ci := 6) (v := .int count_) uw_X6_add_X6 hK hP 0 rfl rfl 3 (by decide) fl_X6_add_33 rfl rfl dX6_add_64 ?_
  refine lv_iload_n hx hb dX6_add_67 rfl (lv_at hl 2 rfl) ?_
  obtain ⟨j12, hj12, hij12, hf⟩ := oA_e hf
  obtain ⟨party_13, eparty_13, hf⟩ := oL_e hf
  refine xiast M hK hP hD hS 2 0 rfl rfl hj12 hij12 eparty_13 [(a_this, .inr (6, [.ref a_rows, .ref a_party, .ref a_weight, .int count_, u_tried_, u_total_, u_low_, u_high_])), (a_rows, .inl (cI, 40, .inl rows_11)), (a_party, .inl (cI, 8, .inl party_13)), (a_weight, .inl (cI, 8, .inl weight_))] rfl dX6_add_68 (fun H locs hP hD hS => ?_)
  refine lv_aload_n hx hb dX6_add_69 rfl (lv_at hl 1 rfl) ?_
  refine xget M (C := RX6) (T := TX6) (N := 8) (ci := 6) (v := .ref a_weight) uw_X6_add_X6 hK hP 0 rfl rfl 2 (by decide) fl_X6_add_18 rfl rfl dX6_add_70 ?_
  refine lv_aload_n hx hb dX6_add_73 rfl (lv_at hl 1 rfl) ?_
  refine xget M (C := RX6) (T := TX6) (N := 8) (ci := 6) (v := .int count_) uw_X6_add_X6 hK hP 0 rfl rfl 3 (by decide) fl_X6_add_33 rfl rfl dX6_add_74 ?_
  refine lv_iconst (v := (0 : Int32)) hx hb dX6_add_77 (by decide) ?_
  obtain ⟨j14, hj14, hij14, hf⟩ := oA_e hf
  obtain ⟨weight_15, eweight_15, hf⟩ := oL_e hf
  refine xiast M hK hP hD hS 3 0 rfl rfl hj14 hij14 eweight_15 [(a_this, .inr (6, [.ref a_rows, .ref a_party, .ref a_weight, .int count_, u_tried_, u_total_, u_low_, u_high_])), (a_rows, .inl (cI, 40, .inl rows_11)), (a_party, .inl (cI, 8, .inl party_13)), (a_weight, .inl (cI, 8, .inl weight_15))] rfl dX6_add_78 (fun H locs hP hD hS => ?_)
  refine lv_aload_n hx hb dX6_add_79 rfl (lv_at hl 1 rfl) ?_
  refine lv_dup hx hb dX6_add_80 rfl ?_
  refine xget M (C := RX6) (T := TX6) (N := 8) (ci := 6) (v := .int count_) uw_X6_add_X6 hK hP 0 rfl rfl 3 (by decide) fl_X6_add_33 rfl rfl dX6_add_81 ?_
  refine lv_iconst (v := (1 : Int32)) hx hb dX6_add_84 (by decide) ?_
  refine lv_iadd hx hb dX6_add_85 ?_
  obtain ⟨count_16, ecount_16, hf⟩ := oL_e hf
  refine xtopi ecount_16 ?_
  refine xput M (C := RX6) (T := TX6) (N := 8) (ci := 6) (v := .int count_16) uw_X6_add_X6 tyX6 tyX6_ok nmX6 hK hP hD hS 0 rfl rfl 3 (by decide) fl_X6_add_33 rfl rfl rfl rfl (Nat.le_of_ble_eq_true rfl) [(a_this, .inr (6, [.ref a_rows, .ref a_party, .ref a_weight, .int count_16, u_tried_, u_total_, u_low_, u_high_])), (a_rows, .inl (cI, 40, .inl rows_11)), (a_party, .inl (cI, 8, .inl party_13)), (a_weight, .inl (cI, 8, .inl weight_15))] rfl dX6_add_86 (fun H locs hP hD hS => ?_)
  refine lv_aload_n hx hb dX6_add_89 rfl (lv_at hl 1 rfl) ?_
  refine xget M (C := RX6) (T := TX6) (N := 8) (ci := 6) (v := .int count_16) uw_X6_add_X6 hK hP 0 rfl rfl 3 (by decide) fl_X6_add_33 rfl rfl dX6_add_90 ?_
  refine lv_iconst (v := (1 : Int32)) hx hb dX6_add_93 (by decide) ?_
  refine lv_isub hx hb dX6_add_94 ?_
  exact hR _ _ _ _ _ hf _ _ _ _ dX6_add_95 hP hD hS
set_option maxHeartbeats 4000000 in
set_option maxRecDepth 100000 in
theorem c_X6_add (l : Launch) (G : va_G) (cI cJ cZ cO : ClassId) (tS sz : Nat) (a_this : Nat) (a_rows : Nat) (a_party : Nat) (a_weight : Nat) (u_tried_ : Value) (u_total_ : Value) (u_low_ : Value) (u_high_ : Value) (count_ : Int32) (rows_ : (Nat → Int32)) (party_ : (Nat → Int32)) (weight_ : (Nat → Int32)) (x1_ : Int32) (x2_ : Int32) (x3_ : Int32) (x4_ : Int32) (x5_ : Int32) (x6_ : Int32) (v_ : Int32) (o_rows_ : (Nat → Int32)) (o_party_ : (Nat → Int32)) (o_weight_ : (Nat → Int32)) (o_count_ : Int32) (hf : f_X6_add count_ rows_ party_ weight_ x1_ x2_ x3_ x4_ x5_ x6_ = some (v_, o_rows_, o_party_, o_weight_, o_count_)) : Met l yX6_add wsX6_add ({ frames := 0, cells := 0, slots := 0, locals := 0 } : Room) (xPre G (xTY cI cJ cZ cO) tS [(a_this, .inr (6, [.ref a_rows, .ref a_party, .ref a_weight, .int count_, u_tried_, u_total_, u_low_, u_high_])), (a_rows, .inl (cI, 40, .inl rows_)), (a_party, .inl (cI, 8, .inl party_)), (a_weight, .inl (cI, 8, .inl weight_))] sz [.ref a_this, .int x1_, .int x2_, .int x3_, .int x4_, .int x5_, .int x6_]) (xQi G [(a_this, .inr (6, [.ref a_rows, .ref a_party, .ref a_weight, .int count_, u_tried_, u_total_, u_low_, u_high_])), (a_rows, .inl (cI, 40, .inl rows_)), (a_party, .inl (cI, 8, .inl party_)), (a_weight, .inl (cI, 8, .inl weight_))] sz (fun _ : Unit => [(a_this, .inr (6, [.ref a_rows, .ref a_party, .ref a_weight, .int o_count_, u_tried_, u_total_, u_low_, u_high_])), (a_rows, .inl (cI, 40, .inl o_rows_)), (a_party, .inl (cI, 8, .inl o_party_)), (a_weight, .inl (cI, 8, .inl o_weight_))]) v_) 0 0 (va_A [(a_this, .inr (6, [.ref a_rows, .ref a_party, .ref a_weight, .int count_, u_tried_, u_total_, u_low_, u_high_])), (a_rows, .inl (cI, 40, .inl rows_)), (a_party, .inl (cI, 8, .inl party_)), (a_weight, .inl (cI, 8, .inl weight_))] sz) := by
  refine xMet (cc := cX6_add) (maxL := 8) (ret := (some .int)) (own := RX6) (by decide +kernel) rfl rfl (Nat.le_of_ble_eq_true rfl) rfl ?_
  intro p e s m below meth c ls M hr hlk hin hsz hA hK hZ hP hD hl
  refine w_X6_add_0 a_this a_rows a_party a_weight u_tried_ u_total_ u_low_ u_high_ hA hK hZ M (v_, o_rows_, o_party_, o_weight_, o_count_) (fun v_' o_rows_' o_party_' o_weight_' o_count_' hres H locs ls pc hd hP hD hS => ?_) count_ rows_ party_ weight_ x1_ x2_ x3_ x4_ x5_ x6_ hf hP hD va_S.rf hl
  cases hres
  exact xreti (W1 := fun _ : Unit => [(a_this, .inr (6, [.ref a_rows, .ref a_party, .ref a_weight, .int o_count_, u_tried_, u_total_, u_low_, u_high_])), (a_rows, .inl (cI, 40, .inl o_rows_)), (a_party, .inl (cI, 8, .inl o_party_)), (a_weight, .inl (cI, 8, .inl o_weight_))]) M hr hlk () hP hD hS hd
