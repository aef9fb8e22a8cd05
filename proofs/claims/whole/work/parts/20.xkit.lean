/-! Words for the lifted functions, and rows that pack the kit's rows for them. -/
def oL {α β : Type} (a : α) (k : α → Option β) : Option β := k a
def oG {β : Type} (c : Prop) [Decidable c] (k : Option β) : Option β := if c then k else none
def oA {β : Type} (i : Int32) (n : Nat) (k : Nat → Option β) : Option β := if i < 0 ∨ n ≤ i.toNatClampNeg then none else k i.toNatClampNeg
def oZ {β : Type} (v : Int32) (k : Option β) : Option β := if v = 0 ∨ v = 1 then k else none
def oF {σ β : Type} (F : (σ → Option β) → σ → Option β) : Nat → σ → Option β
  | 0, _ => none
  | n + 1, s => F (oF F n) s
def oB0 {β : Type} (a : Option Unit) (k : Option β) : Option β := match a with
  | some _ => k
  | none => none
def oB1 {α β : Type} (a : Option α) (k : α → Option β) : Option β := match a with
  | some x => k x
  | none => none
def oB2 {α₁ α₂ β : Type} (a : Option (α₁ × α₂)) (k : α₁ → α₂ → Option β) : Option β := match a with
  | some x => k x.1 x.2
  | none => none
def oB3 {α₁ α₂ α₃ β : Type} (a : Option (α₁ × α₂ × α₃)) (k : α₁ → α₂ → α₃ → Option β) : Option β := match a with
  | some x => k x.1 x.2.1 x.2.2
  | none => none
def oB4 {α₁ α₂ α₃ α₄ β : Type} (a : Option (α₁ × α₂ × α₃ × α₄)) (k : α₁ → α₂ → α₃ → α₄ → Option β) : Option β := match a with
  | some x => k x.1 x.2.1 x.2.2.1 x.2.2.2
  | none => none
def oB5 {α₁ α₂ α₃ α₄ α₅ β : Type} (a : Option (α₁ × α₂ × α₃ × α₄ × α₅)) (k : α₁ → α₂ → α₃ → α₄ → α₅ → Option β) : Option β := match a with
  | some x => k x.1 x.2.1 x.2.2.1 x.2.2.2.1 x.2.2.2.2
  | none => none
theorem oL_e {α β : Type} {a : α} {k : α → Option β} {r : β} (h : oL a k = some r) : ∃ x, a = x ∧ k x = some r := ⟨a, rfl, h⟩
theorem oG_e {β : Type} {c : Prop} [Decidable c] {k : Option β} {r : β} (h : oG c k = some r) : c ∧ k = some r := by
  unfold oG at h
  by_cases hc : c
  · rw [if_pos hc] at h; exact ⟨hc, h⟩
  · rw [if_neg hc] at h; cases h
theorem oA_e {β : Type} {i : Int32} {n : Nat} {k : Nat → Option β} {r : β} (h : oA i n k = some r) : ∃ j, i.toNatClampNeg = j ∧ vp_in i n ∧ k j = some r := by
  unfold oA at h
  by_cases hc : i < 0 ∨ n ≤ i.toNatClampNeg
  · rw [if_pos hc] at h; cases h
  · rw [if_neg hc] at h; exact ⟨_, rfl, hc, h⟩
theorem oZ_e {β : Type} {v : Int32} {k : Option β} {r : β} (h : oZ v k = some r) : (v = 0 ∨ v = 1) ∧ k = some r := by
  unfold oZ at h
  by_cases hc : v = 0 ∨ v = 1
  · rw [if_pos hc] at h; exact ⟨hc, h⟩
  · rw [if_neg hc] at h; cases h
theorem oI_t {β : Type} {c : Prop} [Decidable c] {a b : Option β} {r : β} (hc : c) (h : (if c then a else b) = some r) : a = some r := by
  rw [if_pos hc] at h; exact h
theorem oI_f {β : Type} {c : Prop} [Decidable c] {a b : Option β} {r : β} (hc : ¬ c) (h : (if c then a else b) = some r) : b = some r := by
  rw [if_neg hc] at h; exact h
theorem oB0_e {β : Type} {a : Option Unit} {k : Option β} {r : β} (h : oB0 a k = some r) : a = some () ∧ k = some r := by
  cases a with
  | none => cases h
  | some x => exact ⟨rfl, h⟩
theorem oB1_e {α β : Type} {a : Option α} {k : α → Option β} {r : β} (h : oB1 a k = some r) : ∃ x, a = some x ∧ k x = some r := by
  cases a with
  | none => cases h
  | some x => exact ⟨x, rfl, h⟩
theorem oB2_e {α₁ α₂ β : Type} {a : Option (α₁ × α₂)} {k : α₁ → α₂ → Option β} {r : β} (h : oB2 a k = some r) : ∃ x₁ x₂, a = some (x₁, x₂) ∧ k x₁ x₂ = some r := by
  cases a with
  | none => cases h
  | some x => exact ⟨x.1, x.2, rfl, h⟩
theorem oB3_e {α₁ α₂ α₃ β : Type} {a : Option (α₁ × α₂ × α₃)} {k : α₁ → α₂ → α₃ → Option β} {r : β} (h : oB3 a k = some r) : ∃ x₁ x₂ x₃, a = some (x₁, x₂, x₃) ∧ k x₁ x₂ x₃ = some r := by
  cases a with
  | none => cases h
  | some x => exact ⟨x.1, x.2.1, x.2.2, rfl, h⟩
theorem oB4_e {α₁ α₂ α₃ α₄ β : Type} {a : Option (α₁ × α₂ × α₃ × α₄)} {k : α₁ → α₂ → α₃ → α₄ → Option β} {r : β} (h : oB4 a k = some r) : ∃ x₁ x₂ x₃ x₄, a = some (x₁, x₂, x₃, x₄) ∧ k x₁ x₂ x₃ x₄ = some r := by
  cases a with
  | none => cases h
  | some x => exact ⟨x.1, x.2.1, x.2.2.1, x.2.2.2, rfl, h⟩
theorem oB5_e {α₁ α₂ α₃ α₄ α₅ β : Type} {a : Option (α₁ × α₂ × α₃ × α₄ × α₅)} {k : α₁ → α₂ → α₃ → α₄ → α₅ → Option β} {r : β} (h : oB5 a k = some r) : ∃ x₁ x₂ x₃ x₄ x₅, a = some (x₁, x₂, x₃, x₄, x₅) ∧ k x₁ x₂ x₃ x₄ x₅ = some r := by
  cases a with
  | none => cases h
  | some x => exact ⟨x.1, x.2.1, x.2.2.1, x.2.2.2.1, x.2.2.2.2, rfl, h⟩
/-- the loops' fuel: above what any loop of the class or the reference goes through -/
def xN : Nat := 200000
/-- the table of the worlds in which a letter is so -/
def xso (j : Nat) : Int64 := match j with
  | 0 => -6148914691236517206
  | 1 => -3689348814741910324
  | 2 => -1085102592571150096
  | 3 => -71777214294589696
  | 4 => -281470681808896
  | _ => -4294967296
def xsoV (j : Nat) : Value := .long (xso j)
def xST (t : Nat) (A : Nat → Prop) (U : State) : Prop := va_Z "BetweenBoth$Worlds" "SO_WITHIN" "[J" (.ref t) A U U.heap ∧ va_T .long t 6 xsoV A U U.heap
theorem xST.to {t : Nat} {A B : Nat → Prop} {s U : State} {H : Heap} {locs : List Loc} (h : xST t A s) (hS : va_S A s.heap H locs) (hU : U.heap = H) (hvm : s.vm.Alike U.vm) (hAB : ∀ q, B q → A q) : xST t B U := by
  obtain ⟨h1, h2⟩ := h
  subst hU
  exact ⟨(va_Z.moved hvm (h1.kept hS.2.1)).narrow hAB, (va_T.moved hvm (h2.kept hS.2.1)).narrow hAB⟩
abbrev xTY (cI cJ cZ cO : ClassId) : List (ClassId × FieldType) := [(cI, .int), (cJ, .long), (cZ, .boolean), (cO, .object "BetweenBoth$Image")]
def xPre (G : va_G) (tys : List (ClassId × FieldType)) (t : Nat) (W0 : va_W) (sz : Nat) (av : List Value) : Array Value → State → Prop := va_Pc av (fun U => U.heap.size = sz ∧ va_P G vwCl W0 U.heap ∧ va_K G vwCl tys U ∧ va_D (fun _ => True) W0 ∧ xST t (va_A W0 sz) U)
def xQi {S : Type} (G : va_G) (W0 : va_W) (sz : Nat) (W1 : S → va_W) (r : Int32) : Array Value → State → Outcome → State → Prop := va_Qi (fun r' (_ : S) => r' = r) (fun u t => va_P G vwCl (W1 u) t.heap ∧ va_D (va_A W0 sz) (W1 u)) (va_A W0 sz)
def xQl {S : Type} (G : va_G) (W0 : va_W) (sz : Nat) (W1 : S → va_W) (r : Int64) : Array Value → State → Outcome → State → Prop := va_Ql (fun r' (_ : S) => r' = r) (fun u t => va_P G vwCl (W1 u) t.heap ∧ va_D (va_A W0 sz) (W1 u)) (va_A W0 sz)
def xQv {S : Type} (G : va_G) (W0 : va_W) (sz : Nat) (W1 : S → va_W) : Array Value → State → Outcome → State → Prop := va_Qv (fun (_ : S) => True) (fun u t => va_P G vwCl (W1 u) t.heap ∧ va_D (va_A W0 sz) (W1 u)) (va_A W0 sz)
theorem xPre_blind {G : va_G} {tys : List (ClassId × FieldType)} {t : Nat} {W0 : va_W} {sz : Nat} {av : List Value} : FrameBlind (xPre G tys t W0 sz av) := by
  intro a U g mk q
  obtain ⟨q0, q1, qP, qK, qD, qZ⟩ := q
  exact ⟨q0, q1, qP, va_K.moved (u := U) (U := U.calling g mk a) (Vm.Alike.refl U.vm) qK, qD, va_Z.moved (u := U) (U := U.calling g mk a) (Vm.Alike.refl U.vm) qZ.1, va_T.moved (u := U) (U := U.calling g mk a) (Vm.Alike.refl U.vm) qZ.2⟩
theorem xMet {l : Launch} {y : MethodName} {ws ws' : List Cond} {rm : Room} {cc : ByteArray} {maxL : Nat} {ret : Option FieldType} {own : String} {G : va_G} {tys : List (ClassId × FieldType)} {t : Nat} {W0 : va_W} {sz : Nat} {av : List Value} {Qc : Array Value → State → Outcome → State → Prop} {mc ms : Nat} {lv : List (Nat × Value)}
    (hy : plainFor y = true) (hw : ws = Cond.code y cc maxL ret :: ws') (hown : y.cls = own) (hlen : (lg_sl av).length ≤ maxL) (hlv : lv_args 0 av = lv)
    (body : ∀ (p : Program) (e : Env) (s : State) (m : MethodId) (below : List Frame) (meth : Method) (c : Code) (ls : Array Slot), CallFix p m c cc maxL s av.toArray ws own → meth.sig.returnType = ret → meth.locks = false → meth.name = y.name → s.heap.size = sz → (∀ q : Nat, s.heap.size ≤ q → va_A W0 sz q) → va_K G vwCl tys s → xST t (va_A W0 sz) s → va_P G vwCl W0 s.heap → va_D (va_A W0 sz) W0 → lv_has ls maxL lv →
      W p l e rm s m av.toArray below meth c s.heap [] 0 0 (MQ below Qc av.toArray s mc ms (va_A W0 sz)) (F0 m 0 ls [])) : Met l y ws rm (xPre G tys t W0 sz av) Qc mc ms (va_A W0 sz) := by
  refine va_MetF (cc := cc) (maxL := maxL) (ret := ret) hy hw ?_
  intro p e s m args below meth c s₁ B hml hv
  obtain ⟨rfl, hsz, hP, hK, hD0, hZ⟩ := hv
  have hown' : s.vm.findClass own = some m.cls := by rw [← hown]; exact findClass_of_methodNamed B.named
  have hl := lv_entry av (n := maxL) hlen
  rw [lg_entry_eq]
  generalize (lg_sl av ++ List.replicate (maxL - (lg_sl av).length) Slot.unset).toArray = ls at hl ⊢
  rw [hlv] at hl
  exact body p e s m below meth c ls ⟨B.exec, B.bytes, hml, hown', atoms_spec (ws := ws) B.pre⟩ B.returns B.notSynchronized (name_of_methodNamed B.named B.method).1 hsz (fun q h => Or.inr (by rw [← hsz]; exact h)) hK hZ hP (hD0.self (sz := sz)) hl
section XK
variable {p : Program} {l : Launch} {e : Env} {R : Room} {s : State} {m : MethodId} {args : Array Value} {below : List Frame} {meth : Method} {c : Code} {H : Heap} {locs : List Loc} {cells slots : Nat} {Q : State → Prop}
variable {cc : ByteArray} {nL pc : Nat} {ls : Array Slot} {rest : List Value} {G : va_G} {A : Nat → Prop} {a : Nat} {tys : List (ClassId × FieldType)} {ws : va_W} {Ts : List Cond} {own : String} {H0 : Heap} {t : Nat}
theorem xtopi {x y : Int32} (h : y = x) (k : W p l e R s m args below meth c H locs cells slots Q (F0 m pc ls (.int x :: rest))) : W p l e R s m args below meth c H locs cells slots Q (F0 m pc ls (.int y :: rest)) := h ▸ k
theorem xtopl {x y : Int64} (h : y = x) (k : W p l e R s m args below meth c H locs cells slots Q (F0 m pc ls (.long x :: rest))) : W p l e R s m args below meth c H locs cells slots Q (F0 m pc ls (.long y :: rest)) := h ▸ k
theorem xget (M : CallFix p m c cc nL s args Ts own) {C ref : String} {T : u_T} {N ci index : Nat} (hin : ∀ w ∈ u_ws C T N, w ∈ Ts) (hK : va_K G vwCl tys s) (hP : va_P G vwCl ws H) (q0 : Nat) {fs : List Value} (he : ws[q0]? = some (a, .inr (ci, fs))) (hc : vwCl[ci]? = some (C, T, N)) (k : Nat) (hk : k < N) (hlink : Cond.fieldLink own index ref (T k).2.1 (T k).2.2.1 ∈ Ts) (href : (T k).1 = ref) {v : Value} (hv : fs[k]? = some v) (hdg : decode cc pc = .ok (.getfield index, 3))
    (kk : W p l e R s m args below meth c H locs cells slots Q (F0 m (pc + 3) ls (v :: rest))) : W p l e R s m args below meth c H locs cells slots Q (F0 m pc ls (.ref a :: rest)) :=
  va_get M.1 M.2.1 M.2.2.2.2 hin M.2.2.2.1 hK hP q0 he hc k hk (M.2.2.2.2 _ hlink) (fun x h => by rw [← href]; exact h) hv hdg kk
theorem xput (M : CallFix p m c cc nL s args Ts own) {C ref : String} {T : u_T} {N ci index : Nat} (hin : ∀ w ∈ u_ws C T N, w ∈ Ts) (ty0 : Nat → FieldType) (hty : ∀ k, k < N → parseFieldDescriptor (T k).2.2.1 = some (ty0 k)) (hnm : ∀ a, a < N → ∀ b, b < N → a ≠ b → (T a).2.1 ≠ (T b).2.1) (hK : va_K G vwCl tys s) (hP : va_P G vwCl ws H) (hD : va_D A ws) (hS : va_S A H0 H locs) (q0 : Nat) {fs : List Value} (he : ws[q0]? = some (a, .inr (ci, fs))) (hc : vwCl[ci]? = some (C, T, N)) (k : Nat) (hk : k < N) (hlink : Cond.fieldLink own index ref (T k).2.1 (T k).2.2.1 ∈ Ts) (href : (T k).1 = ref) (hfin : (T k).2.2.2 = false) {v : Value} (hn : narrow (ty0 k) v = v) (hfit : fits (ty0 k) v = true) (hl : k < fs.length) (ws' : va_W) (hw : ws.set q0 (a, .inr (ci, fs.set k v)) = ws') (hdg : decode cc pc = .ok (.putfield index, 3))
    (kk : ∀ (H1 : Heap) (locs1 : List Loc), va_P G vwCl ws' H1 → va_D A ws' → va_S A H0 H1 locs1 → W p l e R s m args below meth c H1 locs1 cells slots Q (F0 m (pc + 3) ls rest)) : W p l e R s m args below meth c H locs cells slots Q (F0 m pc ls (v :: .ref a :: rest)) := by
  subst hw
  exact va_put M.1 M.2.1 M.2.2.2.2 hin ty0 hty hnm M.2.2.2.1 hK hP hD hS q0 he hc k hk (M.2.2.2.2 _ hlink) (fun x h => by rw [← href]; exact h) hfin (hty k hk) hn hfit hl hdg kk
theorem xputF (M : CallFix p m c cc nL s args Ts own) {C ref : String} {T : u_T} {N ci index : Nat} (hin : ∀ w ∈ u_ws C T N, w ∈ Ts) (ty0 : Nat → FieldType) (hty : ∀ k, k < N → parseFieldDescriptor (T k).2.2.1 = some (ty0 k)) (hnm : ∀ a, a < N → ∀ b, b < N → a ≠ b → (T a).2.1 ≠ (T b).2.1) (hK : va_K G vwCl tys s) (hP : va_P G vwCl ws H) (hD : va_D A ws) (hS : va_S A H0 H locs) (hin2 : meth.name = "<init>") (q0 : Nat) {fs : List Value} (he : ws[q0]? = some (a, .inr (ci, fs))) (hc : vwCl[ci]? = some (C, T, N)) (k : Nat) (hk : k < N) (hlink : Cond.fieldLink own index ref (T k).2.1 (T k).2.2.1 ∈ Ts) (href : (T k).1 = ref) (hfin : (T k).2.2.2 = true) (hdecl : (T k).1 = own) {v : Value} (hn : narrow (ty0 k) v = v) (hfit : fits (ty0 k) v = true) (hl : k < fs.length) (ws' : va_W) (hw : ws.set q0 (a, .inr (ci, fs.set k v)) = ws') (hdg : decode cc pc = .ok (.putfield index, 3))
    (kk : ∀ (H1 : Heap) (locs1 : List Loc), va_P G vwCl ws' H1 → va_D A ws' → va_S A H0 H1 locs1 → W p l e R s m args below meth c H1 locs1 cells slots Q (F0 m (pc + 3) ls rest)) : W p l e R s m args below meth c H locs cells slots Q (F0 m pc ls (v :: .ref a :: rest)) := by
  subst hw
  exact va_putF M.1 M.2.1 M.2.2.2.2 hin ty0 hty hnm M.2.2.2.1 hK hP hD hS q0 he hc k hk (M.2.2.2.2 _ hlink) (fun x h => by rw [← href]; exact h) hfin hin2 hdecl (hty k hk) hn hfit hl hdg kk
theorem xiald (M : CallFix p m c cc nL s args Ts own) (hK : va_K G vwCl tys s) (hP : va_P G vwCl ws H) (q0 t0 : Nat) {cA : ClassId} {n : Nat} {f : Nat → Int32} (ha : ws[q0]? = some (a, .inl (cA, n, .inl f))) (ht : tys[t0]? = some (cA, .int)) {i : Int32} {j : Nat} (hj : i.toNatClampNeg = j) (hin : vp_in i n) (hdg : decode cc pc = .ok (.iaload, 1))
    (kk : W p l e R s m args below meth c H locs cells slots Q (F0 m (pc + 1) ls (.int (f j) :: rest))) : W p l e R s m args below meth c H locs cells slots Q (F0 m pc ls (.int i :: .ref a :: rest)) := by
  subst hj
  exact va_iald M.1 M.2.1 hK hP q0 t0 ha ht hin hdg kk
theorem xzald (M : CallFix p m c cc nL s args Ts own) (hK : va_K G vwCl tys s) (hP : va_P G vwCl ws H) (q0 t0 : Nat) {cA : ClassId} {n : Nat} {f : Nat → Int32} (ha : ws[q0]? = some (a, .inl (cA, n, .inl f))) (ht : tys[t0]? = some (cA, .boolean)) {i : Int32} {j : Nat} (hj : i.toNatClampNeg = j) (hin : vp_in i n) (hdg : decode cc pc = .ok (.baload, 1))
    (kk : W p l e R s m args below meth c H locs cells slots Q (F0 m (pc + 1) ls (.int (f j) :: rest))) : W p l e R s m args below meth c H locs cells slots Q (F0 m pc ls (.int i :: .ref a :: rest)) := by
  subst hj
  exact va_zald M.1 M.2.1 hK hP q0 t0 ha ht hin hdg kk
theorem xlald (M : CallFix p m c cc nL s args Ts own) (hK : va_K G vwCl tys s) (hP : va_P G vwCl ws H) (q0 t0 : Nat) {cA : ClassId} {n : Nat} {f : Nat → Int64} (ha : ws[q0]? = some (a, .inl (cA, n, .inr (.inl f)))) (ht : tys[t0]? = some (cA, .long)) {i : Int32} {j : Nat} (hj : i.toNatClampNeg = j) (hin : vp_in i n) (hdg : decode cc pc = .ok (.laload, 1))
    (kk : W p l e R s m args below meth c H locs cells slots Q (F0 m (pc + 1) ls (.long (f j) :: rest))) : W p l e R s m args below meth c H locs cells slots Q (F0 m pc ls (.int i :: .ref a :: rest)) := by
  subst hj
  exact va_lald M.1 M.2.1 hK hP q0 t0 ha ht hin hdg kk
theorem xiast (M : CallFix p m c cc nL s args Ts own) (hK : va_K G vwCl tys s) (hP : va_P G vwCl ws H) (hD : va_D A ws) (hS : va_S A H0 H locs) (q0 t0 : Nat) {cA : ClassId} {n : Nat} {f g : Nat → Int32} (ha : ws[q0]? = some (a, .inl (cA, n, .inl f))) (ht : tys[t0]? = some (cA, .int)) {i x : Int32} {j : Nat} (hj : i.toNatClampNeg = j) (hin : vp_in i n) (hg : upd f j x = g) (ws' : va_W) (hw : ws.set q0 (a, .inl (cA, n, .inl g)) = ws') (hdg : decode cc pc = .ok (.iastore, 1))
    (kk : ∀ (H1 : Heap) (locs1 : List Loc), va_P G vwCl ws' H1 → va_D A ws' → va_S A H0 H1 locs1 → W p l e R s m args below meth c H1 locs1 cells slots Q (F0 m (pc + 1) ls rest)) : W p l e R s m args below meth c H locs cells slots Q (F0 m pc ls (.int x :: .int i :: .ref a :: rest)) := by
  subst hj hg hw
  exact va_iast M.1 M.2.1 hK hP hD hS q0 t0 ha ht hin hdg kk
theorem vp_nar_z {x : Int32} (h : x = 0 ∨ x = 1) : vp_nar .boolean x = x := by
  rcases h with h | h <;> subst h <;> decide
theorem xzast (M : CallFix p m c cc nL s args Ts own) (hK : va_K G vwCl tys s) (hP : va_P G vwCl ws H) (hD : va_D A ws) (hS : va_S A H0 H locs) (q0 t0 : Nat) {cA : ClassId} {n : Nat} {f g : Nat → Int32} (ha : ws[q0]? = some (a, .inl (cA, n, .inl f))) (ht : tys[t0]? = some (cA, .boolean)) {i x : Int32} {j : Nat} (hj : i.toNatClampNeg = j) (hin : vp_in i n) (hz : x = 0 ∨ x = 1) (hg : upd f j x = g) (ws' : va_W) (hw : ws.set q0 (a, .inl (cA, n, .inl g)) = ws') (hdg : decode cc pc = .ok (.bastore, 1))
    (kk : ∀ (H1 : Heap) (locs1 : List Loc), va_P G vwCl ws' H1 → va_D A ws' → va_S A H0 H1 locs1 → W p l e R s m args below meth c H1 locs1 cells slots Q (F0 m (pc + 1) ls rest)) : W p l e R s m args below meth c H locs cells slots Q (F0 m pc ls (.int x :: .int i :: .ref a :: rest)) := by
  subst hj hg hw
  refine va_zast M.1 M.2.1 hK hP hD hS q0 t0 ha ht hin hdg ?_
  rw [vp_nar_z hz]
  exact kk
theorem xlast (M : CallFix p m c cc nL s args Ts own) (hK : va_K G vwCl tys s) (hP : va_P G vwCl ws H) (hD : va_D A ws) (hS : va_S A H0 H locs) (q0 t0 : Nat) {cA : ClassId} {n : Nat} {f g : Nat → Int64} (ha : ws[q0]? = some (a, .inl (cA, n, .inr (.inl f)))) (ht : tys[t0]? = some (cA, .long)) {i : Int32} {x : Int64} {j : Nat} (hj : i.toNatClampNeg = j) (hin : vp_in i n) (hg : vp_updL f j x = g) (ws' : va_W) (hw : ws.set q0 (a, .inl (cA, n, .inr (.inl g))) = ws') (hdg : decode cc pc = .ok (.lastore, 1))
    (kk : ∀ (H1 : Heap) (locs1 : List Loc), va_P G vwCl ws' H1 → va_D A ws' → va_S A H0 H1 locs1 → W p l e R s m args below meth c H1 locs1 cells slots Q (F0 m (pc + 1) ls rest)) : W p l e R s m args below meth c H locs cells slots Q (F0 m pc ls (.long x :: .int i :: .ref a :: rest)) := by
  subst hj hg hw
  exact va_last M.1 M.2.1 hK hP hD hS q0 t0 ha ht hin hdg kk
/-- calls: what is run -/
theorem xrV {y : MethodName} {bytes : ByteArray} {maxL mc ms n index : Nat} {ret : Option FieldType} {wsC : List Cond} {rm : Room} {C : String} {b : Addr} {As st : List Value} {wc : va_W} {Qc : Array Value → State → Outcome → State → Prop} (M : CallFix p m c cc nL s args Ts own) (hA : ∀ q : Nat, s.heap.size ≤ q → A q) (hK : va_K G vwCl tys s) (hZ : xST t A s) (hP : va_P G vwCl ws H) (hD : va_D A ws) (hS : va_S A s.heap H locs)
    (hM : Met l y wsC rm (xPre G tys t wc H.size (.ref b :: As)) Qc mc ms (va_A wc H.size)) (cw : CallW R s args own C index y bytes maxL ret wsC rm mc ms n) (isC : List Nat) (hC : isC.map (fun i => ws[i]?) = wc.map some) (hnC : va_nd isC = true) (q0 : Nat) {ci : Nat} {fs : List Value} {T : u_T} {N : Nat} (hq : ws[q0]? = some (b, .inr (ci, fs))) (hc : vwCl[ci]? = some (C, T, N))
    (hn : As.length = n) (hl : ls.size = nL) (hst : st = As.reverse ++ .ref b :: rest) (hW : (rest.map fun v => v.category).sum ≤ 8) (hdg : decode cc pc = .ok (.invokevirtual index, 3)) (hf : cells + mc ≤ R.cells ∧ slots + ms ≤ R.slots) :
    va_Run p l e R s m args below meth c H locs cells slots mc ms (F0 m pc ls st) rest (Qc (Value.ref b :: As).toArray) (va_A wc H.size) := by
  have hF := va_free (wc := wc) hD hS hA isC hC
  have hPc : va_P G vwCl wc H := hP.sub isC (by
    have : isC.filterMap (fun i => ws[i]?) = (isC.map (fun i => ws[i]?)).filterMap id := by rw [List.filterMap_map]; rfl
    rw [this, hC, List.filterMap_map]
    simp [Function.comp_def])
  have hDc := hD.sub isC hnC hC
  exact va_runV M hM cw ⟨xPre_blind, va_recv hK hP hc hq, fun U hU hW => ⟨rfl, by rw [hU], by rw [hU]; exact hPc, va_K.moved hW.alike hK, hDc.weaken (fun _ _ _ _ => trivial), hZ.to hS hU hW.alike hF⟩⟩ rfl hn hl hst (lv_room hW) hdg hf
theorem xrS {y : MethodName} {bytes : ByteArray} {maxL mc ms n index : Nat} {ret : Option FieldType} {wsC : List Cond} {rm : Room} {As st : List Value} {wc : va_W} {Qc : Array Value → State → Outcome → State → Prop} (M : CallFix p m c cc nL s args Ts own) (hA : ∀ q : Nat, s.heap.size ≤ q → A q) (hK : va_K G vwCl tys s) (hZ : xST t A s) (hP : va_P G vwCl ws H) (hD : va_D A ws) (hS : va_S A s.heap H locs)
    (hM : Met l y wsC rm (xPre G tys t wc H.size As) Qc mc ms (va_A wc H.size)) (cw : CallB R s args own index y bytes maxL ret wsC rm mc ms n ∧ (Cond.static y).before args s = true) (isC : List Nat) (hC : isC.map (fun i => ws[i]?) = wc.map some) (hnC : va_nd isC = true)
    (hn : As.length = n) (hl : ls.size = nL) (hst : st = As.reverse ++ rest) (hW : (rest.map fun v => v.category).sum ≤ 8) (hdg : decode cc pc = .ok (.invokestatic index, 3)) (hf : cells + mc ≤ R.cells ∧ slots + ms ≤ R.slots) :
    va_Run p l e R s m args below meth c H locs cells slots mc ms (F0 m pc ls st) rest (Qc As.toArray) (va_A wc H.size) := by
  have hF := va_free (wc := wc) hD hS hA isC hC
  have hPc : va_P G vwCl wc H := hP.sub isC (by
    have : isC.filterMap (fun i => ws[i]?) = (isC.map (fun i => ws[i]?)).filterMap id := by rw [List.filterMap_map]; rfl
    rw [this, hC, List.filterMap_map]
    simp [Function.comp_def])
  have hDc := hD.sub isC hnC hC
  exact va_runS M hM cw ⟨xPre_blind, fun U hU hW => ⟨rfl, by rw [hU], by rw [hU]; exact hPc, va_K.moved hW.alike hK, hDc.weaken (fun _ _ _ _ => trivial), hZ.to hS hU hW.alike hF⟩⟩ rfl hn hl hst (lv_room hW) hdg hf
theorem xjoin {wc wr : va_W} {w1 ws' : va_W} {H1 : Heap} (hP : va_P G vwCl ws H) (hD : va_D A ws) (isC isR pm : List Nat) (hC : isC.map (fun i => ws[i]?) = wc.map some) (hR : isR.map (fun i => ws[i]?) = wr.map some) (hnR : va_nd isR = true) (hdis : isR.all (fun i => !isC.contains i) = true) (hpm : pm.map (fun i => (wr ++ w1)[i]?) = ws'.map some) (hnp : va_nd pm = true)
    (hk : ∀ q : Nat, q < H.size → ¬ va_A wc H.size q → H1[q]? = H[q]?) (hF : ∀ q, va_A wc H.size q → A q) (hP1 : va_P G vwCl w1 H1) (hD1 : va_D (va_A wc H.size) w1) : va_P G vwCl ws' H1 ∧ va_D A ws' := by
  obtain ⟨g1, g2⟩ := va_join (wr := wr) (w1 := w1) hP hD isC isR hC hR hnR (fun i hi h => by
    have := List.all_eq_true.mp hdis i hi
    simp at this
    exact this h) hk hF hP1 hD1
  refine ⟨g1.sub pm ?_, g2.sub pm hnp hpm⟩
  have : pm.filterMap (fun i => (wr ++ w1)[i]?) = (pm.map (fun i => (wr ++ w1)[i]?)).filterMap id := by rw [List.filterMap_map]; rfl
  rw [this, hpm, List.filterMap_map]
  simp [Function.comp_def]
theorem xci {S : Type} {wc wr : va_W} {W1 ws' : S → va_W} {mc ms : Nat} {r : Int32} {st : List Value} {av : Array Value} (hA : ∀ q : Nat, s.heap.size ≤ q → A q) (hP : va_P G vwCl ws H) (hD : va_D A ws) (hS : va_S A s.heap H locs) (hr : va_Run p l e R s m args below meth c H locs cells slots mc ms (F0 m pc ls st) rest (xQi G wc H.size W1 r av) (va_A wc H.size))
    (isC isR pm : List Nat) (hC : isC.map (fun i => ws[i]?) = wc.map some) (hR : isR.map (fun i => ws[i]?) = wr.map some) (hnR : va_nd isR = true) (hdis : isR.all (fun i => !isC.contains i) = true) (hpm : ∀ u, pm.map (fun i => (wr ++ W1 u)[i]?) = (ws' u).map some) (hnp : va_nd pm = true)
    (kk : ∀ (u : S) (H1 : Heap) (locs1 : List Loc), va_P G vwCl (ws' u) H1 → va_D A (ws' u) → va_S A s.heap H1 locs1 → W p l e R s m args below meth c H1 locs1 (cells + mc) (slots + ms) Q (F0 m (pc + 3) ls (.int r :: rest))) : W p l e R s m args below meth c H locs cells slots Q (F0 m pc ls st) := by
  have hF := va_free (wc := wc) hD hS hA isC hC
  refine va_calli hr hS (fun q _ h => hF q h) hF (fun r' u t' H1 locs1 ht hvm hw hB hz hk1 hS1 => ?_)
  subst hw
  obtain ⟨hP1, hD1⟩ := hB
  rw [ht] at hP1
  obtain ⟨g1, g2⟩ := xjoin hP hD isC isR pm hC hR hnR hdis (hpm u) hnp hk1 hF hP1 hD1
  exact kk u H1 locs1 g1 g2 hS1
theorem xcl {S : Type} {wc wr : va_W} {W1 ws' : S → va_W} {mc ms : Nat} {r : Int64} {st : List Value} {av : Array Value} (hA : ∀ q : Nat, s.heap.size ≤ q → A q) (hP : va_P G vwCl ws H) (hD : va_D A ws) (hS : va_S A s.heap H locs) (hr : va_Run p l e R s m args below meth c H locs cells slots mc ms (F0 m pc ls st) rest (xQl G wc H.size W1 r av) (va_A wc H.size))
    (isC isR pm : List Nat) (hC : isC.map (fun i => ws[i]?) = wc.map some) (hR : isR.map (fun i => ws[i]?) = wr.map some) (hnR : va_nd isR = true) (hdis : isR.all (fun i => !isC.contains i) = true) (hpm : ∀ u, pm.map (fun i => (wr ++ W1 u)[i]?) = (ws' u).map some) (hnp : va_nd pm = true)
    (kk : ∀ (u : S) (H1 : Heap) (locs1 : List Loc), va_P G vwCl (ws' u) H1 → va_D A (ws' u) → va_S A s.heap H1 locs1 → W p l e R s m args below meth c H1 locs1 (cells + mc) (slots + ms) Q (F0 m (pc + 3) ls (.long r :: rest))) : W p l e R s m args below meth c H locs cells slots Q (F0 m pc ls st) := by
  have hF := va_free (wc := wc) hD hS hA isC hC
  refine va_calll hr hS (fun q _ h => hF q h) hF (fun r' u t' H1 locs1 ht hvm hw hB hz hk1 hS1 => ?_)
  subst hw
  obtain ⟨hP1, hD1⟩ := hB
  rw [ht] at hP1
  obtain ⟨g1, g2⟩ := xjoin hP hD isC isR pm hC hR hnR hdis (hpm u) hnp hk1 hF hP1 hD1
  exact kk u H1 locs1 g1 g2 hS1
theorem xcv {S : Type} {wc wr : va_W} {W1 ws' : S → va_W} {mc ms : Nat} {st : List Value} {av : Array Value} (hA : ∀ q : Nat, s.heap.size ≤ q → A q) (hP : va_P G vwCl ws H) (hD : va_D A ws) (hS : va_S A s.heap H locs) (hr : va_Run p l e R s m args below meth c H locs cells slots mc ms (F0 m pc ls st) rest (xQv G wc H.size W1 av) (va_A wc H.size))
    (isC isR pm : List Nat) (hC : isC.map (fun i => ws[i]?) = wc.map some) (hR : isR.map (fun i => ws[i]?) = wr.map some) (hnR : va_nd isR = true) (hdis : isR.all (fun i => !isC.contains i) = true) (hpm : ∀ u, pm.map (fun i => (wr ++ W1 u)[i]?) = (ws' u).map some) (hnp : va_nd pm = true)
    (kk : ∀ (u : S) (H1 : Heap) (locs1 : List Loc), va_P G vwCl (ws' u) H1 → va_D A (ws' u) → va_S A s.heap H1 locs1 → W p l e R s m args below meth c H1 locs1 (cells + mc) (slots + ms) Q (F0 m (pc + 3) ls rest)) : W p l e R s m args below meth c H locs cells slots Q (F0 m pc ls st) := by
  have hF := va_free (wc := wc) hD hS hA isC hC
  refine va_callv hr hS (fun q _ h => hF q h) hF (fun u t' H1 locs1 ht hvm hw hB hz hk1 hS1 => ?_)
  obtain ⟨hP1, hD1⟩ := hB
  rw [ht] at hP1
  obtain ⟨g1, g2⟩ := xjoin hP hD isC isR pm hC hR hnR hdis (hpm u) hnp hk1 hF hP1 hD1
  exact kk u H1 locs1 g1 g2 hS1
/-- a method's end -/
theorem xreti {S : Type} {W0 : va_W} {W1 : S → va_W} {sz : Nat} {v : Int32} (M : CallFix p m c cc nL s args Ts own) (hr : meth.sig.returnType = some .int) (hlk : meth.locks = false) (u : S) (hP : va_P G vwCl (W1 u) H) (hD : va_D (va_A W0 sz) (W1 u)) (hS : va_S (va_A W0 sz) s.heap H locs) (hdg : decode cc pc = .ok (.ireturn, 1)) :
    W p l e R s m args below meth c H locs cells slots (MQ below (xQi G W0 sz W1 v) args s cells slots (va_A W0 sz)) (F0 m pc ls [.int v]) :=
  W.iret M.1 M.2.1 hr (fun t' ht hW => ⟨⟨v, u, rfl, rfl, by rw [ht]; exact hP, hD⟩, hS.F ht⟩) hS.2.2 hdg hlk
theorem nar_z {x : Int32} (h : x = 0 ∨ x = 1) : narrow .boolean (.int x) = .int x := by
  rcases h with h | h <;> subst h <;> rfl
theorem xretz {S : Type} {W0 : va_W} {W1 : S → va_W} {sz : Nat} {v : Int32} (M : CallFix p m c cc nL s args Ts own) (hr : meth.sig.returnType = some .boolean) (hlk : meth.locks = false) (hz : v = 0 ∨ v = 1) (u : S) (hP : va_P G vwCl (W1 u) H) (hD : va_D (va_A W0 sz) (W1 u)) (hS : va_S (va_A W0 sz) s.heap H locs) (hdg : decode cc pc = .ok (.ireturn, 1)) :
    W p l e R s m args below meth c H locs cells slots (MQ below (xQi G W0 sz W1 v) args s cells slots (va_A W0 sz)) (F0 m pc ls [.int v]) :=
  W.zret M.1 M.2.1 hr (nar_z hz) (fun t' ht hW => ⟨⟨v, u, rfl, rfl, by rw [ht]; exact hP, hD⟩, hS.F ht⟩) hS.2.2 hdg hlk
theorem xretl {S : Type} {W0 : va_W} {W1 : S → va_W} {sz : Nat} {v : Int64} (M : CallFix p m c cc nL s args Ts own) (hr : meth.sig.returnType = some .long) (hlk : meth.locks = false) (u : S) (hP : va_P G vwCl (W1 u) H) (hD : va_D (va_A W0 sz) (W1 u)) (hS : va_S (va_A W0 sz) s.heap H locs) (hdg : decode cc pc = .ok (.lreturn, 1)) :
    W p l e R s m args below meth c H locs cells slots (MQ below (xQl G W0 sz W1 v) args s cells slots (va_A W0 sz)) (F0 m pc ls [.long v]) :=
  W.lret M.1 M.2.1 hr (fun t' ht hW => ⟨⟨v, u, rfl, rfl, by rw [ht]; exact hP, hD⟩, hS.F ht⟩) hS.2.2 hdg hlk
theorem xretv {S : Type} {W0 : va_W} {W1 : S → va_W} {sz : Nat} (M : CallFix p m c cc nL s args Ts own) (hr : meth.sig.returnType = none) (hlk : meth.locks = false) (u : S) (hP : va_P G vwCl (W1 u) H) (hD : va_D (va_A W0 sz) (W1 u)) (hS : va_S (va_A W0 sz) s.heap H locs) (hdg : decode cc pc = .ok (.return_, 1)) :
    W p l e R s m args below meth c H locs cells slots (MQ below (xQv G W0 sz W1) args s cells slots (va_A W0 sz)) (F0 m pc ls []) :=
  W.vret M.1 M.2.1 hr (fun t' ht hW => ⟨⟨u, rfl, trivial, by rw [ht]; exact hP, hD⟩, hS.F ht⟩) hS.2.2 hdg hlk
end XK
