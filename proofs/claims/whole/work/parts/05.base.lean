/-! my own base: contracts of one form, the ways in and out of a walk, calls, and the mirror's small words -/
abbrev vwK : List vw_C := [(RX1, TX1, 8), (RX2, TX2, 10), (RX3, TX3, 5), (RX4, TX4, 4), (RX5, TX5, 4), (RX6, TX6, 25)]
abbrev tyA (cI cJ : ClassId) : List (ClassId × FieldType) := [(cI, .int), (cJ, .long)]
abbrev hostN : String := "CountLearners"
def NW (U : State) : Prop := va_Nw (.methodLinkNest RX1 37 yX5_setAll hostN) U ∧ va_Nw (.methodLinkNest RX2 79 yX5_setAll hostN) U ∧ va_Nw (.methodLinkNest RX3 40 yX5_setAll hostN) U ∧ va_Nw (.methodLinkNest RX4 31 yX5_setAll hostN) U
theorem NW.same {u U : State} (h : u.vm = U.vm) (n : NW u) : NW U := ⟨n.1.same rfl h, n.2.1.same rfl h, n.2.2.1.same rfl h, n.2.2.2.same rfl h⟩
theorem NW.warm {u U : State} (h : u.WarmedH U.vm) (n : NW u) : NW U := ⟨n.1.warmM h, n.2.1.warmM h, n.2.2.1.warmM h, n.2.2.2.warmM h⟩
def KN (D : va_G) (cI cJ : ClassId) (U : State) : Prop := va_K D vwK (tyA cI cJ) U ∧ NW U
def PRE (D : va_G) (cI cJ : ClassId) (sz : Nat) (ws : va_W) (U : State) : Prop := U.heap.size = sz ∧ va_P D vwK ws U.heap ∧ KN D cI cJ U ∧ va_D (fun _ => True) ws
def AFT (D : va_G) (ws ws' : va_W) (sz : Nat) (_ : Unit) (t : State) : Prop := va_P D vwK ws' t.heap ∧ va_D (va_A ws sz) ws'
abbrev rmOf (fr lo : Nat) : Room := { frames := fr, cells := 0, slots := 0, locals := lo }
abbrev QV (D : va_G) (ws ws' : va_W) (sz : Nat) : Array Value → State → Outcome → State → Prop := va_Qv (fun _ : Unit => True) (AFT D ws ws' sz) (va_A ws sz)
abbrev QI (D : va_G) (ws ws' : va_W) (sz : Nat) (r : Int32) : Array Value → State → Outcome → State → Prop := va_Qi (fun (x : Int32) (_ : Unit) => x = r) (AFT D ws ws' sz) (va_A ws sz)
abbrev QL (D : va_G) (ws ws' : va_W) (sz : Nat) (r : Int64) : Array Value → State → Outcome → State → Prop := va_Ql (fun (x : Int64) (_ : Unit) => x = r) (AFT D ws ws' sz) (va_A ws sz)
def CV (l : Launch) (D : va_G) (cI cJ : ClassId) (y : MethodName) (wl : List Cond) (fr lo : Nat) (av : List Value) (ws ws' : va_W) : Prop := ∀ sz : Nat, Met l y wl (rmOf fr lo) (va_Pc av (PRE D cI cJ sz ws)) (QV D ws ws' sz) 0 0 (va_A ws sz)
def CI (l : Launch) (D : va_G) (cI cJ : ClassId) (y : MethodName) (wl : List Cond) (fr lo : Nat) (av : List Value) (ws ws' : va_W) (r : Int32) : Prop := ∀ sz : Nat, Met l y wl (rmOf fr lo) (va_Pc av (PRE D cI cJ sz ws)) (QI D ws ws' sz r) 0 0 (va_A ws sz)
def CL (l : Launch) (D : va_G) (cI cJ : ClassId) (y : MethodName) (wl : List Cond) (fr lo : Nat) (av : List Value) (ws ws' : va_W) (r : Int64) : Prop := ∀ sz : Nat, Met l y wl (rmOf fr lo) (va_Pc av (PRE D cI cJ sz ws)) (QL D ws ws' sz r) 0 0 (va_A ws sz)
theorem PRE_blind (av : List Value) (D : va_G) (cI cJ : ClassId) (sz : Nat) (ws : va_W) : FrameBlind (va_Pc av (PRE D cI cJ sz ws)) := by
  intro a U g mk q
  obtain ⟨q0, q1, q2, q3, q4⟩ := q
  exact ⟨q0, q1, q2, ⟨va_K.moved (u := U) (U := U.calling g mk a) (Vm.Alike.refl U.vm) q3.1, q3.2.same rfl⟩, q4⟩
theorem PRE_at {s : State} {D : va_G} {cI cJ : ClassId} {ws : va_W} {H : Heap} {A : Nat → Prop} (av : List Value) (hK : KN D cI cJ s) (hP : va_P D vwK ws H) (hD : va_D A ws) : ∀ U : State, U.heap = H → s.WarmedH U.vm → va_Pc av (PRE D cI cJ H.size ws) av.toArray U := by
  intro U hU hW
  exact ⟨rfl, by rw [hU], by rw [hU]; exact hP, ⟨va_K.moved hW.alike hK.1, hK.2.warm hW⟩, hD.weaken (fun _ _ _ _ => trivial)⟩
theorem fm_of_map {α : Type} {f : Nat → Option α} : ∀ {is : List Nat} {w : List α}, is.map f = w.map some → is.filterMap f = w
  | [], [], _ => rfl
  | [], _ :: _, h => by simp at h
  | _ :: _, [], h => by simp at h
  | i :: is, x :: w, h => by
    simp only [List.map_cons, List.cons.injEq] at h
    rw [List.filterMap_cons, h.1, fm_of_map h.2]
section Enter
variable {l : Launch} {D : va_G} {cI cJ : ClassId} {y : MethodName} {wl wl' : List Cond} {fr lo : Nat} {av : List Value} {ws ws' : va_W} {cc : ByteArray} {maxL : Nat} {ret : Option FieldType}
/-- what a walk begins with -/
def Ctx (p : Program) (e : Env) (s : State) (m : MethodId) (meth : Method) (c : Code) (D : va_G) (cI cJ : ClassId) (y : MethodName) (wl : List Cond) (av : List Value) (ws : va_W) (cc : ByteArray) (maxL : Nat) (ret : Option FieldType) (A : Nat → Prop) (ls : Array Slot) : Prop :=
  p.tables.exec = Jvm.exec ∧ c.code = cc ∧ meth.sig.returnType = ret ∧ c.maxLocals = maxL ∧ (∀ w ∈ wl, w.before av.toArray s = true) ∧ s.vm.findClass y.cls = some m.cls ∧ meth.locks = false ∧ KN D cI cJ s ∧ (∀ q : Nat, s.heap.size ≤ q → A q) ∧ va_P D vwK ws s.heap ∧ va_D A ws ∧ va_S A s.heap s.heap [] ∧ lv_has ls maxL (lv_args 0 av) ∧ meth.name = y.name
theorem entW {Qc : Nat → Array Value → State → Outcome → State → Prop} (hy : plainName y.cls = true) (hw : wl = Cond.code y cc maxL ret :: wl') (hn : (lg_sl av).length ≤ maxL)
    (body : ∀ (p : Program) (e : Env) (s : State) (m : MethodId) (below : List Frame) (meth : Method) (c : Code) (ls : Array Slot), Ctx p e s m meth c D cI cJ y wl av ws cc maxL ret (va_A ws s.heap.size) ls →
      W p l e (rmOf fr lo) s m av.toArray below meth c s.heap [] 0 0 (MQ below (Qc s.heap.size) av.toArray s 0 0 (va_A ws s.heap.size)) (F0 m 0 ls [])) (sz : Nat) :
    Met l y wl (rmOf fr lo) (va_Pc av (PRE D cI cJ sz ws)) (Qc sz) 0 0 (va_A ws sz) := by
  refine Met.ofW (cc := cc) (maxL := maxL) (ret := ret) hy hw ?_
  intro p e s m args below meth c s₁ B hml hv
  obtain ⟨rfl, hsz, hP, hK, hD0⟩ := hv
  subst hsz
  have hl := lv_entry av (n := maxL) hn
  rw [lg_entry_eq]
  exact body p e s m below meth c _ ⟨B.exec, B.bytes, B.returns, hml, atoms_spec (ws := wl) B.pre, findClass_of_methodNamed B.named, B.notSynchronized, hK, fun q h => Or.inr h, hP, hD0.self, va_S.rf, hl, (name_of_methodNamed B.named B.method).1⟩
end Enter
section Leave
variable {p : Program} {l : Launch} {e : Env} {R : Room} {s : State} {m : MethodId} {args : Array Value} {below : List Frame} {meth : Method} {c : Code} {H : Heap} {locs : List Loc} {D : va_G} {ws ws' : va_W} {cc : ByteArray} {pc : Nat} {ls : Array Slot}
theorem retV (hx : p.tables.exec = Jvm.exec) (hb : c.code = cc) (hr : meth.sig.returnType = none) (hlk : meth.locks = false) (hP : va_P D vwK ws' H) (hD : va_D (va_A ws s.heap.size) ws') (hS : va_S (va_A ws s.heap.size) s.heap H locs) (hdg : decode cc pc = .ok (.return_, 1)) :
    W p l e R s m args below meth c H locs 0 0 (MQ below (QV D ws ws' s.heap.size) args s 0 0 (va_A ws s.heap.size)) (F0 m pc ls []) :=
  W.vret hx hb hr (fun t ht hW => ⟨⟨(), rfl, trivial, by rw [ht]; exact hP, hD⟩, hS.F ht⟩) hS.2.2 hdg hlk
theorem retI {r : Int32} (hx : p.tables.exec = Jvm.exec) (hb : c.code = cc) (hr : meth.sig.returnType = some .int) (hlk : meth.locks = false) (hP : va_P D vwK ws' H) (hD : va_D (va_A ws s.heap.size) ws') (hS : va_S (va_A ws s.heap.size) s.heap H locs) (hdg : decode cc pc = .ok (.ireturn, 1)) :
    W p l e R s m args below meth c H locs 0 0 (MQ below (QI D ws ws' s.heap.size r) args s 0 0 (va_A ws s.heap.size)) (F0 m pc ls [.int r]) :=
  W.iret (v := r) hx hb hr (fun t ht hW => ⟨⟨r, (), rfl, rfl, by rw [ht]; exact hP, hD⟩, hS.F ht⟩) hS.2.2 hdg hlk
theorem retZ {r : Int32} (hx : p.tables.exec = Jvm.exec) (hb : c.code = cc) (hr : meth.sig.returnType = some .boolean) (hlk : meth.locks = false) (hP : va_P D vwK ws' H) (hD : va_D (va_A ws s.heap.size) ws') (hS : va_S (va_A ws s.heap.size) s.heap H locs) (hz : r = 0 ∨ r = 1) (hdg : decode cc pc = .ok (.ireturn, 1)) :
    W p l e R s m args below meth c H locs 0 0 (MQ below (QI D ws ws' s.heap.size r) args s 0 0 (va_A ws s.heap.size)) (F0 m pc ls [.int r]) :=
  W.zret (v := r) (ty := .boolean) hx hb hr (by rcases hz with rfl | rfl <;> rfl) (fun t ht hW => ⟨⟨r, (), rfl, rfl, by rw [ht]; exact hP, hD⟩, hS.F ht⟩) hS.2.2 hdg hlk
theorem retL {r : Int64} (hx : p.tables.exec = Jvm.exec) (hb : c.code = cc) (hr : meth.sig.returnType = some .long) (hlk : meth.locks = false) (hP : va_P D vwK ws' H) (hD : va_D (va_A ws s.heap.size) ws') (hS : va_S (va_A ws s.heap.size) s.heap H locs) (hdg : decode cc pc = .ok (.lreturn, 1)) :
    W p l e R s m args below meth c H locs 0 0 (MQ below (QL D ws ws' s.heap.size r) args s 0 0 (va_A ws s.heap.size)) (F0 m pc ls [.long r]) :=
  W.lret (v := r) hx hb hr (fun t ht hW => ⟨⟨r, (), rfl, rfl, by rw [ht]; exact hP, hD⟩, hS.F ht⟩) hS.2.2 hdg hlk
end Leave
section Enter2
variable {l : Launch} {D : va_G} {cI cJ : ClassId} {y : MethodName} {wl wl' : List Cond} {fr lo : Nat} {av : List Value} {ws ws' : va_W} {cc : ByteArray} {maxL : Nat}
def Ctx2 (p : Program) (s : State) (m : MethodId) (args : Array Value) (meth : Method) (c : Code) (D : va_G) (cI cJ : ClassId) (y : MethodName) (wl : List Cond) (av : List Value) (ws : va_W) (cc : ByteArray) (maxL : Nat) (A : Nat → Prop) (ls : Array Slot) : Prop :=
  p.tables.exec = Jvm.exec ∧ c.code = cc ∧ c.maxLocals = maxL ∧ (∀ w ∈ wl, w.before args s = true) ∧ s.vm.findClass y.cls = some m.cls ∧ KN D cI cJ s ∧ (∀ q : Nat, s.heap.size ≤ q → A q) ∧ va_P D vwK ws s.heap ∧ va_D A ws ∧ va_S A s.heap s.heap [] ∧ lv_has ls maxL (lv_args 0 av) ∧ meth.name = y.name
theorem entV (hy : plainName y.cls = true) (hw : wl = Cond.code y cc maxL none :: wl') (hn : (lg_sl av).length ≤ maxL)
    (body : ∀ (p : Program) (e : Env) (s : State) (m : MethodId) (args : Array Value) (below : List Frame) (meth : Method) (c : Code) (ls : Array Slot) (A : Nat → Prop) (Q : State → Prop), Ctx2 p s m args meth c D cI cJ y wl av ws cc maxL A ls →
      (∀ (H : Heap) (locs : List Loc) (pc : Nat) (ls : Array Slot), va_P D vwK ws' H → va_D A ws' → va_S A s.heap H locs → decode cc pc = .ok (.return_, 1) → W p l e (rmOf fr lo) s m args below meth c H locs 0 0 Q (F0 m pc ls [])) →
      W p l e (rmOf fr lo) s m args below meth c s.heap [] 0 0 Q (F0 m 0 ls [])) : CV l D cI cJ y wl fr lo av ws ws' := by
  refine entW (ret := none) hy hw hn (fun p e s m below meth c ls X => ?_)
  obtain ⟨hx, hb, hr, hml, hts, hown, hlk, hK, hA, hP, hD, hS, hl, hnm⟩ := X
  exact body p e s m _ below meth c ls _ _ ⟨hx, hb, hml, hts, hown, hK, hA, hP, hD, hS, hl, hnm⟩ (fun H locs pc ls hP hD hS hdg => retV hx hb hr hlk hP hD hS hdg)
theorem entI {r : Int32} (hy : plainName y.cls = true) (hw : wl = Cond.code y cc maxL (some .int) :: wl') (hn : (lg_sl av).length ≤ maxL)
    (body : ∀ (p : Program) (e : Env) (s : State) (m : MethodId) (args : Array Value) (below : List Frame) (meth : Method) (c : Code) (ls : Array Slot) (A : Nat → Prop) (Q : State → Prop), Ctx2 p s m args meth c D cI cJ y wl av ws cc maxL A ls →
      (∀ (H : Heap) (locs : List Loc) (pc : Nat) (ls : Array Slot), va_P D vwK ws' H → va_D A ws' → va_S A s.heap H locs → decode cc pc = .ok (.ireturn, 1) → W p l e (rmOf fr lo) s m args below meth c H locs 0 0 Q (F0 m pc ls [.int r])) →
      W p l e (rmOf fr lo) s m args below meth c s.heap [] 0 0 Q (F0 m 0 ls [])) : CI l D cI cJ y wl fr lo av ws ws' r := by
  refine entW (ret := some .int) hy hw hn (fun p e s m below meth c ls X => ?_)
  obtain ⟨hx, hb, hr, hml, hts, hown, hlk, hK, hA, hP, hD, hS, hl, hnm⟩ := X
  exact body p e s m _ below meth c ls _ _ ⟨hx, hb, hml, hts, hown, hK, hA, hP, hD, hS, hl, hnm⟩ (fun H locs pc ls hP hD hS hdg => retI hx hb hr hlk hP hD hS hdg)
theorem entZ {r : Int32} (hy : plainName y.cls = true) (hw : wl = Cond.code y cc maxL (some .boolean) :: wl') (hn : (lg_sl av).length ≤ maxL)
    (body : ∀ (p : Program) (e : Env) (s : State) (m : MethodId) (args : Array Value) (below : List Frame) (meth : Method) (c : Code) (ls : Array Slot) (A : Nat → Prop) (Q : State → Prop), Ctx2 p s m args meth c D cI cJ y wl av ws cc maxL A ls →
      (∀ (H : Heap) (locs : List Loc) (pc : Nat) (ls : Array Slot), (r = 0 ∨ r = 1) → va_P D vwK ws' H → va_D A ws' → va_S A s.heap H locs → decode cc pc = .ok (.ireturn, 1) → W p l e (rmOf fr lo) s m args below meth c H locs 0 0 Q (F0 m pc ls [.int r])) →
      W p l e (rmOf fr lo) s m args below meth c s.heap [] 0 0 Q (F0 m 0 ls [])) : CI l D cI cJ y wl fr lo av ws ws' r := by
  refine entW (ret := some .boolean) hy hw hn (fun p e s m below meth c ls X => ?_)
  obtain ⟨hx, hb, hr, hml, hts, hown, hlk, hK, hA, hP, hD, hS, hl, hnm⟩ := X
  exact body p e s m _ below meth c ls _ _ ⟨hx, hb, hml, hts, hown, hK, hA, hP, hD, hS, hl, hnm⟩ (fun H locs pc ls hz hP hD hS hdg => retZ hx hb hr hlk hP hD hS hz hdg)
theorem entL {r : Int64} (hy : plainName y.cls = true) (hw : wl = Cond.code y cc maxL (some .long) :: wl') (hn : (lg_sl av).length ≤ maxL)
    (body : ∀ (p : Program) (e : Env) (s : State) (m : MethodId) (args : Array Value) (below : List Frame) (meth : Method) (c : Code) (ls : Array Slot) (A : Nat → Prop) (Q : State → Prop), Ctx2 p s m args meth c D cI cJ y wl av ws cc maxL A ls →
      (∀ (H : Heap) (locs : List Loc) (pc : Nat) (ls : Array Slot), va_P D vwK ws' H → va_D A ws' → va_S A s.heap H locs → decode cc pc = .ok (.lreturn, 1) → W p l e (rmOf fr lo) s m args below meth c H locs 0 0 Q (F0 m pc ls [.long r])) →
      W p l e (rmOf fr lo) s m args below meth c s.heap [] 0 0 Q (F0 m 0 ls [])) : CL l D cI cJ y wl fr lo av ws ws' r := by
  refine entW (ret := some .long) hy hw hn (fun p e s m below meth c ls X => ?_)
  obtain ⟨hx, hb, hr, hml, hts, hown, hlk, hK, hA, hP, hD, hS, hl, hnm⟩ := X
  exact body p e s m _ below meth c ls _ _ ⟨hx, hb, hml, hts, hown, hK, hA, hP, hD, hS, hl, hnm⟩ (fun H locs pc ls hP hD hS hdg => retL hx hb hr hlk hP hD hS hdg)
end Enter2
section Call
variable {p : Program} {l : Launch} {e : Env} {R : Room} {s : State} {m : MethodId} {args : Array Value} {below : List Frame} {meth : Method} {c : Code} {H : Heap} {locs : List Loc} {cells slots : Nat} {Q : State → Prop} {D : va_G} {cI cJ : ClassId} {A : Nat → Prop}
  {ws wc wc' wr ws2 : va_W} {y : MethodName} {bytes cc : ByteArray} {maxL nL n index : Nat} {ret : Option FieldType} {wl Ts : List Cond} {fr lo : Nat} {own C : String} {b : Addr} {As rest st0 : List Value} {pc : Nat} {ls : Array Slot} {r : Int32} {rl : Int64}
/-- the places of a callee's cells and of the rest, and how they go together again -/
def Cut (ws wc wc' ws2 : va_W) (isC isR is2 : List Nat) : Prop :=
  ∃ wr : va_W, isC.map (fun i => ws[i]?) = wc.map some ∧ va_nd isC = true ∧ isR.map (fun i => ws[i]?) = wr.map some ∧ va_nd isR = true ∧ (∀ i ∈ isR, i ∉ isC) ∧ is2.map (fun i => (wr ++ wc')[i]?) = ws2.map some ∧ va_nd is2 = true
theorem Cut.pp {isC isR is2 : List Nat} (k : Cut ws wc wc' ws2 isC isR is2) (hP : va_P D vwK ws H) : va_P D vwK wc H := by
  obtain ⟨wr, h1, -⟩ := k
  exact hP.sub isC (fm_of_map h1)
theorem Cut.dd {isC isR is2 : List Nat} (k : Cut ws wc wc' ws2 isC isR is2) (hD : va_D A ws) : va_D A wc := by
  obtain ⟨wr, h1, h2, -⟩ := k
  exact hD.sub isC h2 h1
theorem Cut.free {isC isR is2 : List Nat} (k : Cut ws wc wc' ws2 isC isR is2) (hD : va_D A ws) (hS : va_S A s.heap H locs) (hA : ∀ q, s.heap.size ≤ q → A q) : ∀ q, va_A wc H.size q → A q := by
  obtain ⟨wr, h1, -⟩ := k
  exact va_free hD hS hA isC h1
theorem Cut.join {isC isR is2 : List Nat} {H1 : Heap} (k : Cut ws wc wc' ws2 isC isR is2) (hP : va_P D vwK ws H) (hD : va_D A ws) (hS : va_S A s.heap H locs) (hA : ∀ q, s.heap.size ≤ q → A q) (hk : ∀ q : Nat, q < H.size → ¬ va_A wc H.size q → H1[q]? = H[q]?) (hP1 : va_P D vwK wc' H1) (hD1 : va_D (va_A wc H.size) wc') : va_P D vwK ws2 H1 ∧ va_D A ws2 := by
  have hF := k.free hD hS hA
  obtain ⟨wr, h1, -, h3, h4, h5, h6, h7⟩ := k
  obtain ⟨j1, j2⟩ := va_join hP hD isC isR h1 h3 h4 h5 hk hF hP1 hD1
  exact ⟨j1.sub is2 (fm_of_map h6), j2.sub is2 h7 h6⟩
theorem callVi (fx : CallFix p m c cc nL s args Ts own) (hC : CI l D cI cJ y wl fr lo (.ref b :: As) wc wc' r) (cw : CallW R s args own C index y bytes maxL ret wl (rmOf fr lo) 0 0 n) (hK : KN D cI cJ s) (hP : va_P D vwK ws H) (hD : va_D A ws) (hS : va_S A s.heap H locs) (hA : ∀ q, s.heap.size ≤ q → A q)
    (isC isR is2 : List Nat) (k : Cut ws wc wc' ws2 isC isR is2) (q0 ci : Nat) {cq : vw_C} {fs : List Value} (hc : vwK[ci]? = some cq) (he : wc[q0]? = some (b, .inr (ci, fs))) (hq : cq.1 = C) (hn : As.length = n) (hsize : ls.size = nL) (hst : st0 = As.reverse ++ .ref b :: rest) (hW : (rest.map fun v => v.category).sum ≤ 8) (hdg : decode cc pc = .ok (.invokevirtual index, 3)) (hcap : cells ≤ R.cells ∧ slots ≤ R.slots)
    (kk : ∀ (H : Heap) (locs : List Loc), va_P D vwK ws2 H → va_D A ws2 → va_S A s.heap H locs → W p l e R s m args below meth c H locs cells slots Q (F0 m (pc + 3) ls (.int r :: rest))) : W p l e R s m args below meth c H locs cells slots Q (F0 m pc ls st0) := by
  subst hq hst
  refine va_calli (va_runV (As := As) (rest := rest) fx (hC H.size) cw ⟨PRE_blind _ _ _ _ _ _, va_recv hK.1 (k.pp hP) hc he, PRE_at _ hK (k.pp hP) (k.dd hD)⟩ rfl hn hsize rfl (lv_room hW) hdg hcap) hS (fun q _ h => k.free hD hS hA q h) (k.free hD hS hA) (fun r1 u t H1 locs1 ht hvm hw hB hz1 hk1 hS1 => ?_)
  obtain ⟨hP1, hD1⟩ := hB
  rw [ht] at hP1
  subst hw
  obtain ⟨j1, j2⟩ := k.join hP hD hS hA hk1 hP1 hD1
  exact kk H1 locs1 j1 j2 hS1
theorem callVl (fx : CallFix p m c cc nL s args Ts own) (hC : CL l D cI cJ y wl fr lo (.ref b :: As) wc wc' rl) (cw : CallW R s args own C index y bytes maxL ret wl (rmOf fr lo) 0 0 n) (hK : KN D cI cJ s) (hP : va_P D vwK ws H) (hD : va_D A ws) (hS : va_S A s.heap H locs) (hA : ∀ q, s.heap.size ≤ q → A q)
    (isC isR is2 : List Nat) (k : Cut ws wc wc' ws2 isC isR is2) (q0 ci : Nat) {cq : vw_C} {fs : List Value} (hc : vwK[ci]? = some cq) (he : wc[q0]? = some (b, .inr (ci, fs))) (hq : cq.1 = C) (hn : As.length = n) (hsize : ls.size = nL) (hst : st0 = As.reverse ++ .ref b :: rest) (hW : (rest.map fun v => v.category).sum ≤ 8) (hdg : decode cc pc = .ok (.invokevirtual index, 3)) (hcap : cells ≤ R.cells ∧ slots ≤ R.slots)
    (kk : ∀ (H : Heap) (locs : List Loc), va_P D vwK ws2 H → va_D A ws2 → va_S A s.heap H locs → W p l e R s m args below meth c H locs cells slots Q (F0 m (pc + 3) ls (.long rl :: rest))) : W p l e R s m args below meth c H locs cells slots Q (F0 m pc ls st0) := by
  subst hq hst
  refine va_calll (va_runV (As := As) (rest := rest) fx (hC H.size) cw ⟨PRE_blind _ _ _ _ _ _, va_recv hK.1 (k.pp hP) hc he, PRE_at _ hK (k.pp hP) (k.dd hD)⟩ rfl hn hsize rfl (lv_room hW) hdg hcap) hS (fun q _ h => k.free hD hS hA q h) (k.free hD hS hA) (fun r1 u t H1 locs1 ht hvm hw hB hz1 hk1 hS1 => ?_)
  obtain ⟨hP1, hD1⟩ := hB
  rw [ht] at hP1
  subst hw
  obtain ⟨j1, j2⟩ := k.join hP hD hS hA hk1 hP1 hD1
  exact kk H1 locs1 j1 j2 hS1
theorem callVv (fx : CallFix p m c cc nL s args Ts own) (hC : CV l D cI cJ y wl fr lo (.ref b :: As) wc wc') (cw : CallW R s args own C index y bytes maxL ret wl (rmOf fr lo) 0 0 n) (hK : KN D cI cJ s) (hP : va_P D vwK ws H) (hD : va_D A ws) (hS : va_S A s.heap H locs) (hA : ∀ q, s.heap.size ≤ q → A q)
    (isC isR is2 : List Nat) (k : Cut ws wc wc' ws2 isC isR is2) (q0 ci : Nat) {cq : vw_C} {fs : List Value} (hc : vwK[ci]? = some cq) (he : wc[q0]? = some (b, .inr (ci, fs))) (hq : cq.1 = C) (hn : As.length = n) (hsize : ls.size = nL) (hst : st0 = As.reverse ++ .ref b :: rest) (hW : (rest.map fun v => v.category).sum ≤ 8) (hdg : decode cc pc = .ok (.invokevirtual index, 3)) (hcap : cells ≤ R.cells ∧ slots ≤ R.slots)
    (kk : ∀ (H : Heap) (locs : List Loc), va_P D vwK ws2 H → va_D A ws2 → va_S A s.heap H locs → W p l e R s m args below meth c H locs cells slots Q (F0 m (pc + 3) ls rest)) : W p l e R s m args below meth c H locs cells slots Q (F0 m pc ls st0) := by
  subst hq hst
  refine va_callv (va_runV (As := As) (rest := rest) fx (hC H.size) cw ⟨PRE_blind _ _ _ _ _ _, va_recv hK.1 (k.pp hP) hc he, PRE_at _ hK (k.pp hP) (k.dd hD)⟩ rfl hn hsize rfl (lv_room hW) hdg hcap) hS (fun q _ h => k.free hD hS hA q h) (k.free hD hS hA) (fun u t H1 locs1 ht hvm hw hB hz1 hk1 hS1 => ?_)
  obtain ⟨hP1, hD1⟩ := hB
  rw [ht] at hP1
  obtain ⟨j1, j2⟩ := k.join hP hD hS hA hk1 hP1 hD1
  exact kk H1 locs1 j1 j2 hS1
theorem callSi (fx : CallFix p m c cc nL s args Ts own) (hC : CI l D cI cJ y wl fr lo As wc wc' r) (cw : CallB R s args own index y bytes maxL ret wl (rmOf fr lo) 0 0 n ∧ (Cond.static y).before args s = true) (hK : KN D cI cJ s) (hP : va_P D vwK ws H) (hD : va_D A ws) (hS : va_S A s.heap H locs) (hA : ∀ q, s.heap.size ≤ q → A q)
    (isC isR is2 : List Nat) (k : Cut ws wc wc' ws2 isC isR is2) (hn : As.length = n) (hsize : ls.size = nL) (hst : st0 = As.reverse ++ rest) (hW : (rest.map fun v => v.category).sum ≤ 8) (hdg : decode cc pc = .ok (.invokestatic index, 3)) (hcap : cells ≤ R.cells ∧ slots ≤ R.slots)
    (kk : ∀ (H : Heap) (locs : List Loc), va_P D vwK ws2 H → va_D A ws2 → va_S A s.heap H locs → W p l e R s m args below meth c H locs cells slots Q (F0 m (pc + 3) ls (.int r :: rest))) : W p l e R s m args below meth c H locs cells slots Q (F0 m pc ls st0) := by
  subst hst
  refine va_calli (va_runS (As := As) (rest := rest) fx (hC H.size) cw ⟨PRE_blind _ _ _ _ _ _, PRE_at _ hK (k.pp hP) (k.dd hD)⟩ rfl hn hsize rfl (lv_room hW) hdg hcap) hS (fun q _ h => k.free hD hS hA q h) (k.free hD hS hA) (fun r1 u t H1 locs1 ht hvm hw hB hz1 hk1 hS1 => ?_)
  obtain ⟨hP1, hD1⟩ := hB
  rw [ht] at hP1
  subst hw
  obtain ⟨j1, j2⟩ := k.join hP hD hS hA hk1 hP1 hD1
  exact kk H1 locs1 j1 j2 hS1
theorem callSl (fx : CallFix p m c cc nL s args Ts own) (hC : CL l D cI cJ y wl fr lo As wc wc' rl) (cw : CallB R s args own index y bytes maxL ret wl (rmOf fr lo) 0 0 n ∧ (Cond.static y).before args s = true) (hK : KN D cI cJ s) (hP : va_P D vwK ws H) (hD : va_D A ws) (hS : va_S A s.heap H locs) (hA : ∀ q, s.heap.size ≤ q → A q)
    (isC isR is2 : List Nat) (k : Cut ws wc wc' ws2 isC isR is2) (hn : As.length = n) (hsize : ls.size = nL) (hst : st0 = As.reverse ++ rest) (hW : (rest.map fun v => v.category).sum ≤ 8) (hdg : decode cc pc = .ok (.invokestatic index, 3)) (hcap : cells ≤ R.cells ∧ slots ≤ R.slots)
    (kk : ∀ (H : Heap) (locs : List Loc), va_P D vwK ws2 H → va_D A ws2 → va_S A s.heap H locs → W p l e R s m args below meth c H locs cells slots Q (F0 m (pc + 3) ls (.long rl :: rest))) : W p l e R s m args below meth c H locs cells slots Q (F0 m pc ls st0) := by
  subst hst
  refine va_calll (va_runS (As := As) (rest := rest) fx (hC H.size) cw ⟨PRE_blind _ _ _ _ _ _, PRE_at _ hK (k.pp hP) (k.dd hD)⟩ rfl hn hsize rfl (lv_room hW) hdg hcap) hS (fun q _ h => k.free hD hS hA q h) (k.free hD hS hA) (fun r1 u t H1 locs1 ht hvm hw hB hz1 hk1 hS1 => ?_)
  obtain ⟨hP1, hD1⟩ := hB
  rw [ht] at hP1
  subst hw
  obtain ⟨j1, j2⟩ := k.join hP hD hS hA hk1 hP1 hD1
  exact kk H1 locs1 j1 j2 hS1
theorem callNv {host : String} (fx : CallFix p m c cc nL s args Ts own) (hC : CV l D cI cJ y wl fr lo As wc wc') (cw : va_CN R s args own index y host bytes maxL ret wl (rmOf fr lo) 0 0 n ∧ (Cond.static y).before args s = true ∧ True) (hK : KN D cI cJ s) (hP : va_P D vwK ws H) (hD : va_D A ws) (hS : va_S A s.heap H locs) (hA : ∀ q, s.heap.size ≤ q → A q)
    (isC isR is2 : List Nat) (k : Cut ws wc wc' ws2 isC isR is2) (hn : As.length = n) (hsize : ls.size = nL) (hst : st0 = As.reverse ++ rest) (hW : (rest.map fun v => v.category).sum ≤ 8) (hdg : decode cc pc = .ok (.invokestatic index, 3)) (hcap : cells ≤ R.cells ∧ slots ≤ R.slots)
    (kk : ∀ (H : Heap) (locs : List Loc), va_P D vwK ws2 H → va_D A ws2 → va_S A s.heap H locs → W p l e R s m args below meth c H locs cells slots Q (F0 m (pc + 3) ls rest)) : W p l e R s m args below meth c H locs cells slots Q (F0 m pc ls st0) := by
  subst hst
  refine va_callv (va_runSN (As := As) (rest := rest) fx (hC H.size) cw ⟨PRE_blind _ _ _ _ _ _, PRE_at _ hK (k.pp hP) (k.dd hD)⟩ rfl hn hsize rfl (lv_room hW) hdg hcap) hS (fun q _ h => k.free hD hS hA q h) (k.free hD hS hA) (fun u t H1 locs1 ht hvm hw hB hz1 hk1 hS1 => ?_)
  obtain ⟨hP1, hD1⟩ := hB
  rw [ht] at hP1
  obtain ⟨j1, j2⟩ := k.join hP hD hS hA hk1 hP1 hD1
  exact kk H1 locs1 j1 j2 hS1
theorem callTi (fx : CallFix p m c cc nL s args Ts own) (hC : CI l D cI cJ y wl fr lo (.ref b :: As) ws wc' r) (cw : CallW R s args own C index y bytes maxL ret wl (rmOf fr lo) 0 0 n) (hK : KN D cI cJ s) (hP : va_P D vwK ws H) (hD : va_D A ws) (hS : va_S A s.heap H locs) (hA : ∀ q, s.heap.size ≤ q → A q)
    (q0 ci : Nat) {cq : vw_C} {fs : List Value} (hc : vwK[ci]? = some cq) (he : ws[q0]? = some (b, .inr (ci, fs))) (hq : cq.1 = C) (hn : As.length = n) (hsize : ls.size = nL) (hst : st0 = As.reverse ++ .ref b :: rest) (hW : (rest.map fun v => v.category).sum ≤ 8) (hdg : decode cc pc = .ok (.invokevirtual index, 3)) (hcap : cells ≤ R.cells ∧ slots ≤ R.slots)
    (kk : ∀ (H : Heap) (locs : List Loc), va_P D vwK wc' H → va_D A wc' → va_S A s.heap H locs → W p l e R s m args below meth c H locs cells slots Q (F0 m (pc + 3) ls (.int r :: rest))) : W p l e R s m args below meth c H locs cells slots Q (F0 m pc ls st0) := by
  subst hq hst
  have hF : ∀ q, va_A ws H.size q → A q := fun q h => h.elim (fun ⟨k, e, h⟩ => hD.2 k (q, e) h) (fun h => hA q (Nat.le_trans hS.1 h))
  refine va_calli (va_runV (As := As) (rest := rest) fx (hC H.size) cw ⟨PRE_blind _ _ _ _ _ _, va_recv hK.1 hP hc he, PRE_at _ hK hP hD⟩ rfl hn hsize rfl (lv_room hW) hdg hcap) hS (fun q _ h => hF q h) hF (fun r1 u t H1 locs1 ht hvm hw hB hz1 hk1 hS1 => ?_)
  obtain ⟨hP1, hD1⟩ := hB
  rw [ht] at hP1
  subst hw
  exact kk H1 locs1 hP1 (hD1.weaken (fun _ q _ h => hF q.1 h)) hS1
theorem callTl (fx : CallFix p m c cc nL s args Ts own) (hC : CL l D cI cJ y wl fr lo (.ref b :: As) ws wc' rl) (cw : CallW R s args own C index y bytes maxL ret wl (rmOf fr lo) 0 0 n) (hK : KN D cI cJ s) (hP : va_P D vwK ws H) (hD : va_D A ws) (hS : va_S A s.heap H locs) (hA : ∀ q, s.heap.size ≤ q → A q)
    (q0 ci : Nat) {cq : vw_C} {fs : List Value} (hc : vwK[ci]? = some cq) (he : ws[q0]? = some (b, .inr (ci, fs))) (hq : cq.1 = C) (hn : As.length = n) (hsize : ls.size = nL) (hst : st0 = As.reverse ++ .ref b :: rest) (hW : (rest.map fun v => v.category).sum ≤ 8) (hdg : decode cc pc = .ok (.invokevirtual index, 3)) (hcap : cells ≤ R.cells ∧ slots ≤ R.slots)
    (kk : ∀ (H : Heap) (locs : List Loc), va_P D vwK wc' H → va_D A wc' → va_S A s.heap H locs → W p l e R s m args below meth c H locs cells slots Q (F0 m (pc + 3) ls (.long rl :: rest))) : W p l e R s m args below meth c H locs cells slots Q (F0 m pc ls st0) := by
  subst hq hst
  have hF : ∀ q, va_A ws H.size q → A q := fun q h => h.elim (fun ⟨k, e, h⟩ => hD.2 k (q, e) h) (fun h => hA q (Nat.le_trans hS.1 h))
  refine va_calll (va_runV (As := As) (rest := rest) fx (hC H.size) cw ⟨PRE_blind _ _ _ _ _ _, va_recv hK.1 hP hc he, PRE_at _ hK hP hD⟩ rfl hn hsize rfl (lv_room hW) hdg hcap) hS (fun q _ h => hF q h) hF (fun r1 u t H1 locs1 ht hvm hw hB hz1 hk1 hS1 => ?_)
  obtain ⟨hP1, hD1⟩ := hB
  rw [ht] at hP1
  subst hw
  exact kk H1 locs1 hP1 (hD1.weaken (fun _ q _ h => hF q.1 h)) hS1
theorem callTv (fx : CallFix p m c cc nL s args Ts own) (hC : CV l D cI cJ y wl fr lo (.ref b :: As) ws wc') (cw : CallW R s args own C index y bytes maxL ret wl (rmOf fr lo) 0 0 n) (hK : KN D cI cJ s) (hP : va_P D vwK ws H) (hD : va_D A ws) (hS : va_S A s.heap H locs) (hA : ∀ q, s.heap.size ≤ q → A q)
    (q0 ci : Nat) {cq : vw_C} {fs : List Value} (hc : vwK[ci]? = some cq) (he : ws[q0]? = some (b, .inr (ci, fs))) (hq : cq.1 = C) (hn : As.length = n) (hsize : ls.size = nL) (hst : st0 = As.reverse ++ .ref b :: rest) (hW : (rest.map fun v => v.category).sum ≤ 8) (hdg : decode cc pc = .ok (.invokevirtual index, 3)) (hcap : cells ≤ R.cells ∧ slots ≤ R.slots)
    (kk : ∀ (H : Heap) (locs : List Loc), va_P D vwK wc' H → va_D A wc' → va_S A s.heap H locs → W p l e R s m args below meth c H locs cells slots Q (F0 m (pc + 3) ls rest)) : W p l e R s m args below meth c H locs cells slots Q (F0 m pc ls st0) := by
  subst hq hst
  have hF : ∀ q, va_A ws H.size q → A q := fun q h => h.elim (fun ⟨k, e, h⟩ => hD.2 k (q, e) h) (fun h => hA q (Nat.le_trans hS.1 h))
  refine va_callv (va_runV (As := As) (rest := rest) fx (hC H.size) cw ⟨PRE_blind _ _ _ _ _ _, va_recv hK.1 hP hc he, PRE_at _ hK hP hD⟩ rfl hn hsize rfl (lv_room hW) hdg hcap) hS (fun q _ h => hF q h) hF (fun u t H1 locs1 ht hvm hw hB hz1 hk1 hS1 => ?_)
  obtain ⟨hP1, hD1⟩ := hB
  rw [ht] at hP1
  exact kk H1 locs1 hP1 (hD1.weaken (fun _ q _ h => hF q.1 h)) hS1
theorem callPi (fx : CallFix p m c cc nL s args Ts own) (hC : CI l D cI cJ y wl fr lo As [] [] r) (cw : CallB R s args own index y bytes maxL ret wl (rmOf fr lo) 0 0 n ∧ (Cond.static y).before args s = true) (hK : KN D cI cJ s) (hP : va_P D vwK ws H) (hD : va_D A ws) (hS : va_S A s.heap H locs) (hA : ∀ q, s.heap.size ≤ q → A q)
    (hn : As.length = n) (hsize : ls.size = nL) (hst : st0 = As.reverse ++ rest) (hW : (rest.map fun v => v.category).sum ≤ 8) (hdg : decode cc pc = .ok (.invokestatic index, 3)) (hcap : cells ≤ R.cells ∧ slots ≤ R.slots)
    (kk : ∀ (H : Heap) (locs : List Loc), va_P D vwK ws H → va_D A ws → va_S A s.heap H locs → W p l e R s m args below meth c H locs cells slots Q (F0 m (pc + 3) ls (.int r :: rest))) : W p l e R s m args below meth c H locs cells slots Q (F0 m pc ls st0) := by
  subst hst
  have hF : ∀ q, va_A [] H.size q → A q := fun q h => h.elim (fun ⟨k, e, h⟩ => by simp at h) (fun h => hA q (Nat.le_trans hS.1 h))
  have hP0 : va_P D vwK [] H := fun k q h => by simp at h
  have hD0 : va_D A [] := ⟨fun i j p q h => by simp at h, fun k q h => by simp at h⟩
  refine va_calli (va_runS (As := As) (rest := rest) fx (hC H.size) cw ⟨PRE_blind _ _ _ _ _ _, PRE_at _ hK hP0 hD0⟩ rfl hn hsize rfl (lv_room hW) hdg hcap) hS (fun q _ h => hF q h) hF (fun r1 u t H1 locs1 ht hvm hw hB hz1 hk1 hS1 => ?_)
  subst hw
  refine kk H1 locs1 (hP.kept (fun k q hk => hk1 q.1 (hP k q hk).lt (fun h => ?_))) hD hS1
  rcases h with ⟨k2, e2, h2⟩ | h2
  · simp at h2
  · exact absurd (hP k q hk).lt (Nat.not_lt.mpr h2)
theorem callPl (fx : CallFix p m c cc nL s args Ts own) (hC : CL l D cI cJ y wl fr lo As [] [] rl) (cw : CallB R s args own index y bytes maxL ret wl (rmOf fr lo) 0 0 n ∧ (Cond.static y).before args s = true) (hK : KN D cI cJ s) (hP : va_P D vwK ws H) (hD : va_D A ws) (hS : va_S A s.heap H locs) (hA : ∀ q, s.heap.size ≤ q → A q)
    (hn : As.length = n) (hsize : ls.size = nL) (hst : st0 = As.reverse ++ rest) (hW : (rest.map fun v => v.category).sum ≤ 8) (hdg : decode cc pc = .ok (.invokestatic index, 3)) (hcap : cells ≤ R.cells ∧ slots ≤ R.slots)
    (kk : ∀ (H : Heap) (locs : List Loc), va_P D vwK ws H → va_D A ws → va_S A s.heap H locs → W p l e R s m args below meth c H locs cells slots Q (F0 m (pc + 3) ls (.long rl :: rest))) : W p l e R s m args below meth c H locs cells slots Q (F0 m pc ls st0) := by
  subst hst
  have hF : ∀ q, va_A [] H.size q → A q := fun q h => h.elim (fun ⟨k, e, h⟩ => by simp at h) (fun h => hA q (Nat.le_trans hS.1 h))
  have hP0 : va_P D vwK [] H := fun k q h => by simp at h
  have hD0 : va_D A [] := ⟨fun i j p q h => by simp at h, fun k q h => by simp at h⟩
  refine va_calll (va_runS (As := As) (rest := rest) fx (hC H.size) cw ⟨PRE_blind _ _ _ _ _ _, PRE_at _ hK hP0 hD0⟩ rfl hn hsize rfl (lv_room hW) hdg hcap) hS (fun q _ h => hF q h) hF (fun r1 u t H1 locs1 ht hvm hw hB hz1 hk1 hS1 => ?_)
  subst hw
  refine kk H1 locs1 (hP.kept (fun k q hk => hk1 q.1 (hP k q hk).lt (fun h => ?_))) hD hS1
  rcases h with ⟨k2, e2, h2⟩ | h2
  · simp at h2
  · exact absurd (hP k q hk).lt (Nat.not_lt.mpr h2)
end Call
section Mirror
/-- an array is read, or written, at a place that it has -/
def gA {α β : Type} (n : Nat) (f : Nat → α) (i : Int32) (k : α → Option β) : Option β := if i < 0 ∨ n ≤ i.toNatClampNeg then none else k (f i.toNatClampNeg)
def sI {β : Type} (n : Nat) (f : Nat → Int32) (i x : Int32) (k : (Nat → Int32) → Option β) : Option β := if i < 0 ∨ n ≤ i.toNatClampNeg then none else k (upd f i.toNatClampNeg x)
def sL {β : Type} (n : Nat) (f : Nat → Int64) (i : Int32) (x : Int64) (k : (Nat → Int64) → Option β) : Option β := if i < 0 ∨ n ≤ i.toNatClampNeg then none else k (vp_updL f i.toNatClampNeg x)
def nm {α β : Type} (x : α) (k : α → Option β) : Option β := k x
def dz {β : Type} (y : Int32) (k : Option β) : Option β := if y = 0 then none else k
def dzL {β : Type} (y : Int64) (k : Option β) : Option β := if y = 0 then none else k
def bz {β : Type} (r : Int32) (k : Option β) : Option β := if r = 0 ∨ r = 1 then k else none
theorem gA_s {α β : Type} {n : Nat} {f : Nat → α} {i : Int32} {k : α → Option β} {r : β} (h : gA n f i k = some r) : vp_in i n ∧ ∀ v, v = f i.toNatClampNeg → k v = some r := by
  unfold gA at h
  by_cases c : i < 0 ∨ n ≤ i.toNatClampNeg
  · rw [if_pos c] at h; cases h
  · exact ⟨c, fun v e => by rw [if_neg c] at h; rw [e]; exact h⟩
theorem sI_s {β : Type} {n : Nat} {f : Nat → Int32} {i x : Int32} {k : (Nat → Int32) → Option β} {r : β} (h : sI n f i x k = some r) : vp_in i n ∧ ∀ g, g = upd f i.toNatClampNeg x → k g = some r := by
  unfold sI at h
  by_cases c : i < 0 ∨ n ≤ i.toNatClampNeg
  · rw [if_pos c] at h; cases h
  · exact ⟨c, fun v e => by rw [if_neg c] at h; rw [e]; exact h⟩
theorem sL_s {β : Type} {n : Nat} {f : Nat → Int64} {i : Int32} {x : Int64} {k : (Nat → Int64) → Option β} {r : β} (h : sL n f i x k = some r) : vp_in i n ∧ ∀ g, g = vp_updL f i.toNatClampNeg x → k g = some r := by
  unfold sL at h
  by_cases c : i < 0 ∨ n ≤ i.toNatClampNeg
  · rw [if_pos c] at h; cases h
  · exact ⟨c, fun v e => by rw [if_neg c] at h; rw [e]; exact h⟩
theorem nm_s {α β : Type} {x : α} {k : α → Option β} {r : Option β} (h : nm x k = r) (z : α) (e : z = x) : k z = r := by
  rw [e]; exact h
theorem dz_s {β : Type} {y : Int32} {k : Option β} {r : β} (h : dz y k = some r) : ¬ y = 0 ∧ k = some r := by
  unfold dz at h
  by_cases c : y = 0
  · rw [if_pos c] at h; cases h
  · exact ⟨c, by rw [if_neg c] at h; exact h⟩
theorem dzL_s {β : Type} {y : Int64} {k : Option β} {r : β} (h : dzL y k = some r) : ¬ y = 0 ∧ k = some r := by
  unfold dzL at h
  by_cases c : y = 0
  · rw [if_pos c] at h; cases h
  · exact ⟨c, by rw [if_neg c] at h; exact h⟩
theorem bz_s {β : Type} {y : Int32} {k : Option β} {r : β} (h : bz y k = some r) : (y = 0 ∨ y = 1) ∧ k = some r := by
  unfold bz at h
  by_cases c : y = 0 ∨ y = 1
  · exact ⟨c, by rw [if_pos c] at h; exact h⟩
  · rw [if_neg c] at h; cases h
theorem bd_s {α β : Type} {o : Option α} {k : α → Option β} {r : β} (h : o.bind k = some r) : ∃ a, o = some a ∧ k a = some r := by
  cases o with
  | none => cases h
  | some a => exact ⟨a, rfl, h⟩
theorem it_p {α : Type} {P : Prop} {i : Decidable P} {a b r : α} (c : P) (h : @ite α P i a b = r) : a = r := by rw [if_pos c] at h; exact h
theorem it_n {α : Type} {P : Prop} {i : Decidable P} {a b r : α} (c : ¬ P) (h : @ite α P i a b = r) : b = r := by rw [if_neg c] at h; exact h
/-- how many turns a loop of the mirror may take -/
def FU : Nat := 3000
end Mirror
