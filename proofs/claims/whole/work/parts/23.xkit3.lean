/-! Rows for constructors: new cells, calls of constructors. -/
def xNW (U : State) : Prop := va_Nw (.methodLinkNest RX9 11 yX7_init RX9) U ∧ va_Nw (.methodLinkNest RX9 18 yX2_init RX9) U ∧ va_Nw (.methodLinkNest RX9 31 yX4_init RX9) U ∧ va_Nw (.methodLinkNest RX9 41 yX3_init RX9) U ∧ va_Nw (.methodLinkNest RX9 48 yX1_init RX9) U ∧ va_Nw (.methodLinkNest RX9 55 yX6_init RX9) U ∧ va_Nw (.methodLinkNest RX9 62 yX5_init RX9) U ∧ va_Nw (.methodLinkNest RX9 74 yX0_init RX9) U ∧ va_Nw (.methodLinkNest RX0 9 yX5_init RX9) U ∧ va_AO "BetweenBoth$Image" U
theorem xNW.warm {s U : State} (hW : s.WarmedH U.vm) (h : xNW s) : xNW U := by
  obtain ⟨h1, h2, h3, h4, h5, h6, h7, h8, h9, h0⟩ := h
  exact ⟨h1.warmM hW, h2.warmM hW, h3.warmM hW, h4.warmM hW, h5.warmM hW, h6.warmM hW, h7.warmM hW, h8.warmM hW, h9.warmM hW, h0.moved hW.alike⟩
theorem va_Nw.call {w : Cond} (hw : w.onTables = true) {U : State} (g : JFrame) (mk : MethodId) (a : Array Value) (h : va_Nw w U) : va_Nw w (U.calling g mk a) := va_tabs (u := U) (U := U.calling g mk a) hw rfl h
theorem xNW.call {U : State} (g : JFrame) (mk : MethodId) (a : Array Value) (h : xNW U) : xNW (U.calling g mk a) := by
  obtain ⟨h1, h2, h3, h4, h5, h6, h7, h8, h9, h0⟩ := h
  exact ⟨h1.call rfl g mk a, h2.call rfl g mk a, h3.call rfl g mk a, h4.call rfl g mk a, h5.call rfl g mk a, h6.call rfl g mk a, h7.call rfl g mk a, h8.call rfl g mk a, h9.call rfl g mk a, va_AO.moved (u := U) (U := U.calling g mk a) (Vm.Alike.refl U.vm) h0⟩
def xPreN (G : va_G) (tys : List (ClassId × FieldType)) (t : Nat) (W0 : va_W) (sz : Nat) (av : List Value) : Array Value → State → Prop := fun v U => xPre G tys t W0 sz av v U ∧ xNW U
theorem xPreN_blind {G : va_G} {tys : List (ClassId × FieldType)} {t : Nat} {W0 : va_W} {sz : Nat} {av : List Value} : FrameBlind (xPreN G tys t W0 sz av) := fun a U g mk q => ⟨xPre_blind a U g mk q.1, q.2.call g mk a⟩
theorem xMetN {l : Launch} {y : MethodName} {ws ws' : List Cond} {rm : Room} {cc : ByteArray} {maxL : Nat} {ret : Option FieldType} {own : String} {G : va_G} {tys : List (ClassId × FieldType)} {t : Nat} {W0 : va_W} {sz : Nat} {av : List Value} {Qc : Array Value → State → Outcome → State → Prop} {mc ms : Nat} {lv : List (Nat × Value)}
    (hy : plainFor y = true) (hw : ws = Cond.code y cc maxL ret :: ws') (hown : y.cls = own) (hlen : (lg_sl av).length ≤ maxL) (hlv : lv_args 0 av = lv)
    (body : ∀ (p : Program) (e : Env) (s : State) (m : MethodId) (below : List Frame) (meth : Method) (c : Code) (ls : Array Slot), CallFix p m c cc maxL s av.toArray ws own → meth.sig.returnType = ret → meth.locks = false → meth.name = y.name → s.heap.size = sz → (∀ q : Nat, s.heap.size ≤ q → va_A W0 sz q) → va_K G vwCl tys s → xST t (va_A W0 sz) s → xNW s → va_P G vwCl W0 s.heap → va_D (va_A W0 sz) W0 → lv_has ls maxL lv →
      W p l e rm s m av.toArray below meth c s.heap [] 0 0 (MQ below Qc av.toArray s mc ms (va_A W0 sz)) (F0 m 0 ls [])) : Met l y ws rm (xPreN G tys t W0 sz av) Qc mc ms (va_A W0 sz) := by
  refine va_MetF (cc := cc) (maxL := maxL) (ret := ret) hy hw ?_
  intro p e s m args below meth c s₁ B hml hv
  obtain ⟨⟨rfl, hsz, hP, hK, hD0, hZ⟩, hN⟩ := hv
  have hown' : s.vm.findClass own = some m.cls := by rw [← hown]; exact findClass_of_methodNamed B.named
  have hl := lv_entry av (n := maxL) hlen
  rw [lg_entry_eq]
  generalize (lg_sl av ++ List.replicate (maxL - (lg_sl av).length) Slot.unset).toArray = ls at hl ⊢
  rw [hlv] at hl
  exact body p e s m below meth c ls ⟨B.exec, B.bytes, hml, hown', atoms_spec (ws := ws) B.pre⟩ B.returns B.notSynchronized (name_of_methodNamed B.named B.method).1 hsz (fun q h => Or.inr (by rw [← hsz]; exact h)) hK hZ hN hP (hD0.self (sz := sz)) hl
section XK3
variable {p : Program} {l : Launch} {e : Env} {R : Room} {s : State} {m : MethodId} {args : Array Value} {below : List Frame} {meth : Method} {c : Code} {H : Heap} {locs : List Loc} {cells slots : Nat} {Q : State → Prop}
variable {cc : ByteArray} {nL pc : Nat} {ls : Array Slot} {rest : List Value} {G : va_G} {A : Nat → Prop} {a : Nat} {ws : va_W} {Ts : List Cond} {own : String} {H0 : Heap} {t : Nat} {cI cJ cZ cO : ClassId}
theorem xnewi (M : CallFix p m c cc nL s args Ts own) (harr : (Cond.arrayClass .int).before args s = true) (hK : va_K G vwCl (xTY cI cJ cZ cO) s) (hP : va_P G vwCl ws H) (hD : va_D A ws) (hS : va_S A H0 H locs) (hA : ∀ q : Nat, H0.size ≤ q → A q)
    {n : Int32} {N' : Nat} (hn : ¬ n < 0) (hN : n.toNatClampNeg = N') (hbytes : N' * 4 ≤ 536870912) (hcells : cells + 1 ≤ R.cells) (hslots : slots + N' ≤ R.slots) (hdg : decode cc pc = .ok (.newarray .int, 2))
    (kk : ∀ (q : Nat) (H1 : Heap), va_P G vwCl (ws ++ [(q, .inl (cI, N', .inl (fun _ => 0)))]) H1 → va_D A (ws ++ [(q, .inl (cI, N', .inl (fun _ => 0)))]) → va_S A H0 H1 locs → W p l e R s m args below meth c H1 locs (cells + 1) (slots + N') Q (F0 m (pc + 2) ls (.ref q :: rest))) : W p l e R s m args below meth c H locs cells slots Q (F0 m pc ls (.int n :: rest)) := by
  refine va_newa (atype := .int) M.1 M.2.1 harr (ty := .int) rfl hK hP hD hS hA (a0 := (N', .inl (fun _ => 0))) (fun _ => rfl) hn hN hbytes hcells hslots hdg (fun q cA H1 hK1 hP1 hD1 hS1 => ?_)
  have e1 : s.vm.findClass ("[" ++ (FieldType.int).toString) = some cA := (hK1.2 4 (cA, .int) rfl).2
  have e2 : s.vm.findClass ("[" ++ (FieldType.int).toString) = some cI := (hK.2 0 (cI, .int) rfl).2
  cases e1.symm.trans e2
  exact kk q H1 hP1 hD1 hS1
theorem xnewl (M : CallFix p m c cc nL s args Ts own) (harr : (Cond.arrayClass .long).before args s = true) (hK : va_K G vwCl (xTY cI cJ cZ cO) s) (hP : va_P G vwCl ws H) (hD : va_D A ws) (hS : va_S A H0 H locs) (hA : ∀ q : Nat, H0.size ≤ q → A q)
    {n : Int32} {N' : Nat} (hn : ¬ n < 0) (hN : n.toNatClampNeg = N') (hbytes : N' * 8 ≤ 536870912) (hcells : cells + 1 ≤ R.cells) (hslots : slots + N' ≤ R.slots) (hdg : decode cc pc = .ok (.newarray .long, 2))
    (kk : ∀ (q : Nat) (H1 : Heap), va_P G vwCl (ws ++ [(q, .inl (cJ, N', .inr (.inl (fun _ => 0))))]) H1 → va_D A (ws ++ [(q, .inl (cJ, N', .inr (.inl (fun _ => 0))))]) → va_S A H0 H1 locs → W p l e R s m args below meth c H1 locs (cells + 1) (slots + N') Q (F0 m (pc + 2) ls (.ref q :: rest))) : W p l e R s m args below meth c H locs cells slots Q (F0 m pc ls (.int n :: rest)) := by
  refine va_newa (atype := .long) M.1 M.2.1 harr (ty := .long) rfl hK hP hD hS hA (a0 := (N', .inr (.inl (fun _ => 0)))) (fun _ => rfl) hn hN hbytes hcells hslots hdg (fun q cA H1 hK1 hP1 hD1 hS1 => ?_)
  have e1 : s.vm.findClass ("[" ++ (FieldType.long).toString) = some cA := (hK1.2 4 (cA, .long) rfl).2
  have e2 : s.vm.findClass ("[" ++ (FieldType.long).toString) = some cJ := (hK.2 1 (cJ, .long) rfl).2
  cases e1.symm.trans e2
  exact kk q H1 hP1 hD1 hS1
theorem xnewz (M : CallFix p m c cc nL s args Ts own) (harr : (Cond.arrayClass .boolean).before args s = true) (hK : va_K G vwCl (xTY cI cJ cZ cO) s) (hP : va_P G vwCl ws H) (hD : va_D A ws) (hS : va_S A H0 H locs) (hA : ∀ q : Nat, H0.size ≤ q → A q)
    {n : Int32} {N' : Nat} (hn : ¬ n < 0) (hN : n.toNatClampNeg = N') (hbytes : N' * 1 ≤ 536870912) (hcells : cells + 1 ≤ R.cells) (hslots : slots + N' ≤ R.slots) (hdg : decode cc pc = .ok (.newarray .boolean, 2))
    (kk : ∀ (q : Nat) (H1 : Heap), va_P G vwCl (ws ++ [(q, .inl (cZ, N', .inl (fun _ => 0)))]) H1 → va_D A (ws ++ [(q, .inl (cZ, N', .inl (fun _ => 0)))]) → va_S A H0 H1 locs → W p l e R s m args below meth c H1 locs (cells + 1) (slots + N') Q (F0 m (pc + 2) ls (.ref q :: rest))) : W p l e R s m args below meth c H locs cells slots Q (F0 m pc ls (.int n :: rest)) := by
  refine va_newa (atype := .boolean) M.1 M.2.1 harr (ty := .boolean) rfl hK hP hD hS hA (a0 := (N', .inl (fun _ => 0))) (fun _ => rfl) hn hN hbytes hcells hslots hdg (fun q cA H1 hK1 hP1 hD1 hS1 => ?_)
  have e1 : s.vm.findClass ("[" ++ (FieldType.boolean).toString) = some cA := (hK1.2 4 (cA, .boolean) rfl).2
  have e2 : s.vm.findClass ("[" ++ (FieldType.boolean).toString) = some cZ := (hK.2 2 (cZ, .boolean) rfl).2
  cases e1.symm.trans e2
  exact kk q H1 hP1 hD1 hS1
theorem xnewq (M : CallFix p m c cc nL s args Ts own) {index : Nat} (hclink : (Cond.classLink own index "BetweenBoth$Image").before args s = true) (hover : va_AO "BetweenBoth$Image" s) (hK : va_K G vwCl (xTY cI cJ cZ cO) s) (hP : va_P G vwCl ws H) (hD : va_D A ws) (hS : va_S A H0 H locs) (hA : ∀ q : Nat, H0.size ≤ q → A q)
    {n : Int32} {N' : Nat} (hn : ¬ n < 0) (hN : n.toNatClampNeg = N') (hbytes : N' * 4 ≤ 536870912) (hcells : cells + 1 ≤ R.cells) (hslots : slots + N' ≤ R.slots) (hdg : decode cc pc = .ok (.anewarray index, 3))
    (kk : ∀ (q : Nat) (H1 : Heap), va_P G vwCl (ws ++ [(q, .inl (cO, N', .inr (.inr (.inr (.inr (fun _ => none))))))]) H1 → va_D A (ws ++ [(q, .inl (cO, N', .inr (.inr (.inr (.inr (fun _ => none))))))]) → va_S A H0 H1 locs → W p l e R s m args below meth c H1 locs (cells + 1) (slots + N') Q (F0 m (pc + 3) ls (.ref q :: rest))) : W p l e R s m args below meth c H locs cells slots Q (F0 m pc ls (.int n :: rest)) := by
  refine va_newq M.1 M.2.1 M.2.2.2.1 hclink hover hK hP hD hS hA hn hN hbytes hcells hslots hdg (fun q cA H1 hK1 hP1 hD1 hS1 => ?_)
  obtain ⟨_, _, _, _, _, e1⟩ := (hK1.2 4 (cA, .object "BetweenBoth$Image") rfl).2
  obtain ⟨_, _, _, _, _, e2⟩ := (hK.2 3 (cO, .object "BetweenBoth$Image") rfl).2
  cases e1.symm.trans e2
  exact kk q H1 hP1 hD1 hS1
theorem xrIN {y : MethodName} {bytes : ByteArray} {maxL mc ms n index : Nat} {wsC : List Cond} {rm : Room} {host : String} {b : Addr} {As st : List Value} {wc : va_W} {tys : List (ClassId × FieldType)} {Qc : Array Value → State → Outcome → State → Prop} (M : CallFix p m c cc nL s args Ts own) (hA : ∀ q : Nat, s.heap.size ≤ q → A q) (hK : va_K G vwCl tys s) (hZ : xST t A s) (hN : xNW s) (hP : va_P G vwCl ws H) (hD : va_D A ws) (hS : va_S A s.heap H locs)
    (hM : Met l y wsC rm (xPreN G tys t wc H.size (.ref b :: As)) Qc mc ms (va_A wc H.size)) (cw : va_CN R s args own index y host bytes maxL none wsC rm mc ms n ∧ y.name = "<init>" ∧ (Cond.instanceMethod y).before args s = true) (isC : List Nat) (hC : isC.map (fun i => ws[i]?) = wc.map some) (hnC : va_nd isC = true)
    (hn : As.length = n) (hl : ls.size = nL) (hst : st = As.reverse ++ .ref b :: rest) (hW : (rest.map fun v => v.category).sum ≤ 8) (hdg : decode cc pc = .ok (.invokespecial index, 3)) (hf : cells + mc ≤ R.cells ∧ slots + ms ≤ R.slots) :
    va_Run p l e R s m args below meth c H locs cells slots mc ms (F0 m pc ls st) rest (Qc (Value.ref b :: As).toArray) (va_A wc H.size) := by
  have hF := va_free (wc := wc) hD hS hA isC hC
  have hPc : va_P G vwCl wc H := hP.sub isC (by
    have : isC.filterMap (fun i => ws[i]?) = (isC.map (fun i => ws[i]?)).filterMap id := by rw [List.filterMap_map]; rfl
    rw [this, hC, List.filterMap_map]
    simp [Function.comp_def])
  have hDc := hD.sub isC hnC hC
  exact va_runIN M hM cw ⟨xPreN_blind, fun U hU hW => ⟨⟨rfl, by rw [hU], by rw [hU]; exact hPc, va_K.moved hW.alike hK, hDc.weaken (fun _ _ _ _ => trivial), hZ.to hS hU hW.alike hF⟩, hN.warm hW⟩⟩ rfl hn hl hst (lv_room hW) hdg hf
theorem xrI {y : MethodName} {bytes : ByteArray} {maxL mc ms n index : Nat} {wsC : List Cond} {rm : Room} {b : Addr} {As st : List Value} {wc : va_W} {tys : List (ClassId × FieldType)} {Qc : Array Value → State → Outcome → State → Prop} (M : CallFix p m c cc nL s args Ts own) (hA : ∀ q : Nat, s.heap.size ≤ q → A q) (hK : va_K G vwCl tys s) (hZ : xST t A s) (hN : xNW s) (hP : va_P G vwCl ws H) (hD : va_D A ws) (hS : va_S A s.heap H locs)
    (hM : Met l y wsC rm (xPreN G tys t wc H.size (.ref b :: As)) Qc mc ms (va_A wc H.size)) (cw : CallB R s args own index y bytes maxL none wsC rm mc ms n ∧ y.name = "<init>" ∧ (Cond.instanceMethod y).before args s = true) (isC : List Nat) (hC : isC.map (fun i => ws[i]?) = wc.map some) (hnC : va_nd isC = true)
    (hn : As.length = n) (hl : ls.size = nL) (hst : st = As.reverse ++ .ref b :: rest) (hW : (rest.map fun v => v.category).sum ≤ 8) (hdg : decode cc pc = .ok (.invokespecial index, 3)) (hf : cells + mc ≤ R.cells ∧ slots + ms ≤ R.slots) :
    va_Run p l e R s m args below meth c H locs cells slots mc ms (F0 m pc ls st) rest (Qc (Value.ref b :: As).toArray) (va_A wc H.size) := by
  have hF := va_free (wc := wc) hD hS hA isC hC
  have hPc : va_P G vwCl wc H := hP.sub isC (by
    have : isC.filterMap (fun i => ws[i]?) = (isC.map (fun i => ws[i]?)).filterMap id := by rw [List.filterMap_map]; rfl
    rw [this, hC, List.filterMap_map]
    simp [Function.comp_def])
  have hDc := hD.sub isC hnC hC
  exact va_runI M hM cw ⟨xPreN_blind, fun U hU hW => ⟨⟨rfl, by rw [hU], by rw [hU]; exact hPc, va_K.moved hW.alike hK, hDc.weaken (fun _ _ _ _ => trivial), hZ.to hS hU hW.alike hF⟩, hN.warm hW⟩⟩ rfl hn hl hst (lv_room hW) hdg hf
end XK3
