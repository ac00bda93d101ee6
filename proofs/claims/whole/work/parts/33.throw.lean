/-! a throw that the caller's table catches (rows of one entry), and contracts of methods that may throw -/
section Catch
/-- what the search for a handler gives, and the tables that it leaves -/
def vy_Find (e : Env) (s : State) (f : JFrame) (a : Addr) (h : Handler) (vm' : Vm) : Prop := ∀ (Q : Handler → Pre) (E : CtlPost) (d : Bool) (acts : List Action), wp (findHandler f a) Q E e d acts s ↔ Q h d acts (s.setVm vm')
theorem vy_go {Q : Handler → Pre} {E : CtlPost} {e : Env} {d : Bool} {acts : List Action} {s : State} {f : JFrame} {a : Addr} {x : ExceptionTableEntry} {t : List ExceptionTableEntry} {c : ClassId} {cell : Cell} (hx : covers x f.pc = true) (h0 : x.catchType ≠ 0)
    (hl : s.vm.ClassLinks e.platform f.method.cls x.catchType c) (hcell : s.heap[a]? = some cell) (hobj : ∀ k, cell.vm ≠ .statics k)
    (hk : ∃ k, s.vm.classes[cell.cls]? = some k) (hc : ∃ k, s.vm.classes[c]? = some k) (hfit : s.vm.assignable cell.cls c = true) :
    wp (findHandler.go f a (x :: t)) Q E e d acts s ↔ Q (.found x.handlerPc) d acts (s.setVm (s.vm.noted f.method.cls x.catchType (.cls c))) := by
  simp only [covers] at hx
  obtain ⟨ha, ht⟩ := (resolveClass_links e.toSetting hl).op (op := VmOp.resolveClass f.method.cls x.catchType) rfl
  have hal : s.vm.Alike (s.vm.noted f.method.cls x.catchType (.cls c)) := (Vm.Alike.refl s.vm).noted _ _ _
  obtain ⟨k1, hk1⟩ := hk
  obtain ⟨k2, hk2⟩ := hc
  obtain ⟨k1', hk1', -⟩ := hal.2.2 _ _ hk1
  obtain ⟨k2', hk2', -⟩ := hal.2.2 _ _ hk2
  have hfit' : (s.vm.noted f.method.cls x.catchType (.cls c)).assignable cell.cls c = true := by rw [hal.assignable]; exact hfit
  simp [findHandler.go, hx, h0, ha, ht, hcell, hobj, hk1', hk2', hfit', VmOp.dirties, VmOp.acts]
theorem vy_step {e : Env} {s : State} {a : Addr} {f : JFrame} {r : List Frame} {pc : Nat} {vm' : Vm} (hfind : vy_Find e s f a (.found pc) vm') :
    (stepThrowing e s a (.java f :: r)).Is ((s.setVm vm').setFrames (.java { f with pc := pc, stack := [.ref a] } :: r)) [] := by
  simp only [stepThrowing, searchFrame, vmDo]
  generalize hr : Sem.go _ e false [] s = res
  obtain ⟨as, rfl, ha⟩ := Sem.eq_ok_of hr (a := Handler.found pc) (s' := s.setVm vm') (acts' := []) (by simp [hfind _ _ _ _])
  exact ⟨rfl, ha⟩
theorem vy_sf (u : State) (vm' : Vm) (F G : List Frame) : ((u.setFrames F).setVm vm').setFrames G = (u.setVm vm').setFrames G := by
  have h1 : (u.setFrames F).setVm vm' = (u.setVm vm').setFrames F := rfl
  rw [h1, State.setFrames_setFrames]
theorem vy_caught {tb : Tables} {e : Env} {s target : State} {g : JFrame} {c : Code} {below : List Frame} {a : Addr} (h : At s g.method c below) {pc : Nat} {vm' : Vm}
    (hfind : vy_Find e ((s.setTop g).pushFrame (.throwing a)) g a (.found pc) vm') (hrest : Steps tb e below ((s.setVm vm').setTop { g with pc := pc, stack := [.ref a] }) target) :
    Steps tb e below ((s.setTop g).pushFrame (.throwing a)) target := by
  obtain ⟨hgo, hw⟩ := h.throwing a
  refine Steps.head hgo hw ?_
  rw [stepThread_throwing (frames_entered h.top _), (vy_step (s := (s.setTop g).pushFrame (.throwing a)) hfind).1]
  obtain ⟨g₀, hg⟩ := Option.isSome_iff_exists.mp h.top
  obtain ⟨r, hr⟩ := State.topJava?_eq_some.mp hg
  have hr' : (s.setVm vm').frames = .java g₀ :: r := hr
  rw [State.setTop_of_frames _ hr'] at hrest
  rw [hr, List.tail_cons, State.pushFrame, vy_sf, State.setTop_of_frames _ hr, vy_sf]
  exact hrest
variable {p : Program} {l : Launch} {e : Env} {R : Room} {s : State} {m : MethodId} {args : Array Value} {below : List Frame} {meth : Method} {c : Code} {H : Heap} {locs : List Loc} {cells slots : Nat} {Q : State → Prop} {ls : Array Slot} {rest : List Value}
theorem vy_catch {own name : String} {E : String} {ce : Cell} {q : Addr} {pc : Nat} (hown : s.vm.findClass own = some m.cls) (x : ExceptionTableEntry) (suf : List ExceptionTableEntry) (hsplit : c.exceptionTable.toList = x :: suf) (hx : covers x pc = true) (h0 : x.catchType ≠ 0)
    (hlink : (Cond.classLink own x.catchType name).before args s = true) (hcast : va_Nw (.castable E name) s) (hcell : H[q]? = some ce) (hv : ce.vm = .none) (hcl : s.vm.findClass E = some ce.cls)
    (kk : W p l e R s m args below meth c H locs cells slots Q (F0 m x.handlerPc ls [.ref q])) : vx_W p l e R s m args below meth c H locs cells slots Q (F0 m pc ls rest) q := by
  intro T hT X
  have hpl : e.platform.magicAccessors = ({} : Platform).magicAccessors := by rw [X.admits.platform]
  obtain ⟨c3, c4, hc3, hc4, hasg⟩ := Cond.castable_spec (va_Nw.use (A := args) rfl hcast)
  cases Option.some.inj (hc3.symm.trans hcl)
  obtain ⟨c5, hc5, hcl5⟩ := Cond.classLink_spec hown hlink e.platform hpl
  cases Option.some.inj (hc4.symm.trans hc5)
  obtain ⟨dk, _, _, kt, hd, _, _, _, _, hkt, _, hopen⟩ := hcl5.here
  have hcl₀ := X.warmed.classLinks hcl5
  have hW' : s.WarmedH (T.vm.noted m.cls x.catchType (.cls c4)) := X.warmed.noted hd hopen (State.rightAt_cls hcl5)
  have hal := X.warmed.alike
  obtain ⟨kt', hkt', -⟩ := hal.2.2 _ _ hkt
  have hfit' : T.vm.assignable ce.cls c4 = true := by rw [hal.assignable]; exact hasg
  have hcT : T.heap[q]? = some ce := by rw [hT]; exact hcell
  have hob : ∀ k, ce.vm ≠ .statics k := fun k h => by rw [hv] at h; cases h
  obtain ⟨t, a1, b1⟩ := kk (T.setVm (T.vm.noted m.cls x.catchType (.cls c4))) hT (X.noted hW')
  refine ⟨t, ?_, b1⟩
  refine vy_caught (g := F0 m pc ls rest) X.here (vm' := T.vm.noted m.cls x.catchType (.cls c4)) (pc := x.handlerPc) ?_ a1
  intro Q2 E2 d2 acts2
  rw [W.findHandler_eq (meth := meth) (code := c) X.method' X.code, hsplit]
  exact vy_go (s := (T.setTop (F0 m pc ls rest)).pushFrame (.throwing q)) (f := F0 m pc ls rest) hx h0 hcl₀ hcT hob (Vm.classAt_of_assignable hfit' ⟨kt', hkt'⟩) ⟨kt', hkt'⟩ hfit'
end Catch
abbrev aeN : String := "java/lang/ArithmeticException"
abbrev aeC : List String := ["java/lang/RuntimeException", "java/lang/Exception"]
abbrev xbL : List Cond := [.declares (Bundle.initS "java/lang/RuntimeException"), .declares (Bundle.initS "java/lang/Exception"), .declares (Bundle.initS Bundle.tN), .castable aeN aeN]
def XW (U : State) : Prop := va_Nw (.declares (Bundle.initS "java/lang/RuntimeException")) U ∧ va_Nw (.declares (Bundle.initS "java/lang/Exception")) U ∧ va_Nw (.declares (Bundle.initS Bundle.tN)) U ∧ va_Nw (.castable aeN aeN) U
theorem XW.same {u U : State} (h : u.vm = U.vm) (n : XW u) : XW U := ⟨n.1.same rfl h, n.2.1.same rfl h, n.2.2.1.same rfl h, n.2.2.2.same rfl h⟩
theorem XW.warm {u U : State} (h : u.WarmedH U.vm) (n : XW u) : XW U := ⟨n.1.warmD h, n.2.1.warmD h, n.2.2.1.warmD h, n.2.2.2.warmC h⟩
theorem xb_in : ∀ w ∈ (vx_atS RX5 98 aeN aeC).filter (fun w => !goodWord w), w ∈ xbL := by decide +kernel
theorem xb_ot : ∀ w ∈ Cond.classLink RX5 94 aeN :: Cond.initialized aeN :: vx_atS RX5 98 aeN aeC, vx_ot w = true := by decide +kernel
/-- the text that is thrown, and the statics that a throw reads -/
def XZ (k : Nat) (tx : String) (sa : Nat) (A : Nat → Prop) (U : State) (H : Heap) : Prop := vk_R RX5 k tx sa U ∧ vx_Zq Bundle.tN "UNASSIGNED_STACK" Bundle.steD A U H ∧ vx_Zq Bundle.tN "SUPPRESSED_SENTINEL" Bundle.listD A U H ∧ XW U
theorem XZ.blind {k : Nat} {tx : String} {sa : Nat} {A : Nat → Prop} {u U : State} {H : Heap} (h : U.vm = u.vm) (z : XZ k tx sa A u H) : XZ k tx sa A U H := ⟨z.1.same h, vx_Zq.moved (by rw [h]; exact Vm.Alike.refl _) z.2.1, vx_Zq.moved (by rw [h]; exact Vm.Alike.refl _) z.2.2.1, z.2.2.2.same h.symm⟩
theorem XZ.warm {k : Nat} {tx : String} {sa : Nat} {A : Nat → Prop} {u U : State} {H : Heap} (h : u.WarmedH U.vm) (z : XZ k tx sa A u H) : XZ k tx sa A U H := ⟨z.1.warm h, vx_Zq.moved h.alike z.2.1, vx_Zq.moved h.alike z.2.2.1, z.2.2.2.warm h⟩
theorem XZ.kept {k : Nat} {tx : String} {sa : Nat} {A : Nat → Prop} {U : State} {H H1 : Heap} {locs : List Loc} (hS : va_S A H H1 locs) (z : XZ k tx sa A U H) : XZ k tx sa A U H1 := ⟨z.1, z.2.1.kept hS.2.1, z.2.2.1.kept hS.2.1, z.2.2.2⟩
theorem XZ.narrow {k : Nat} {tx : String} {sa : Nat} {A B : Nat → Prop} {U : State} {H : Heap} (hAB : ∀ q, B q → A q) (z : XZ k tx sa A U H) : XZ k tx sa B U H := ⟨z.1, z.2.1.narrow hAB, z.2.2.1.narrow hAB, z.2.2.2⟩
abbrev PX (D : va_G) (cI cJ : ClassId) (ws : va_W) (k : Nat) (tx : String) (sa sz : Nat) (U : State) : Prop := PRE D cI cJ sz ws U ∧ XZ k tx sa (va_A ws sz) U U.heap
abbrev QX (D : va_G) (ws ws' : va_W) (o : Option Int64) (sz : Nat) : Array Value → State → Outcome → State → Prop := va_Ql (fun (r : Int64) (_ : Unit) => o = some r) (AFT D ws ws' sz) (va_A ws sz)
abbrev XX (D : va_G) (ws ws' : va_W) (o : Option Int64) (sz : Nat) : String → State → State → Prop := vx_X (fun _ : Unit => o = none) (fun E u t => E = aeN ∧ AFT D ws ws' sz u t) (va_A ws sz)
def CX (l : Launch) (D : va_G) (cI cJ : ClassId) (y : MethodName) (wl : List Cond) (fr lo : Nat) (av : List Value) (ws ws' : va_W) (k : Nat) (tx : String) (sa : Nat) (o : Option Int64) : Prop :=
  ∀ sz : Nat, vx_Met l y wl (rmC fr lo 1 6) (va_Pc av (PX D cI cJ ws k tx sa sz)) (QX D ws ws' o sz) (XX D ws ws' o sz) 1 6 (va_A ws sz)
section EnterX
variable {l : Launch} {D : va_G} {cI cJ : ClassId} {y : MethodName} {wl wl' : List Cond} {fr lo : Nat} {av : List Value} {ws ws' : va_W} {cc : ByteArray} {maxL : Nat} {k sa : Nat} {tx : String} {o : Option Int64}
theorem entX (pcT : Nat) (htr : l.stackTraces = false) (hy : plainName y.cls = true) (hw : wl = Cond.code y cc maxL (some .long) :: wl') (hn : (lg_sl av).length ≤ maxL) (hyc : y.cls = RX5)
    (d0 : decode cc pcT = .ok (.new 94, 3)) (d3 : decode cc (pcT + 3) = .ok (.dup, 1)) (d4 : decode cc (pcT + 4) = .ok (.ldc k, 2)) (d6 : decode cc (pcT + 6) = .ok (.invokespecial 98, 3)) (d9 : decode cc (pcT + 9) = .ok (.athrow, 1))
    (hk1 : Cond.classLink RX5 94 aeN ∈ wl) (hk2 : Cond.initialized aeN ∈ wl) (hk3 : ∀ w ∈ (vx_atS RX5 98 aeN aeC).filter goodWord, w ∈ wl) (hfr : 5 < fr) (hlo : 82 ≤ lo)
    (body : ∀ (p : Program) (e : Env) (s : State) (m : MethodId) (args : Array Value) (below : List Frame) (meth : Method) (c : Code) (ls : Array Slot) (A : Nat → Prop) (Q : State → Prop), Ctx2 p s m args meth c D cI cJ y wl av ws cc maxL A ls →
      (∀ (H : Heap) (locs : List Loc) (pc : Nat) (ls : Array Slot) (r : Int64), o = some r → va_P D vwK ws' H → va_D A ws' → va_S A s.heap H locs → decode cc pc = .ok (.lreturn, 1) → W p l e (rmC fr lo 1 6) s m args below meth c H locs 0 0 Q (F0 m pc ls [.long r])) →
      (∀ (H : Heap) (locs : List Loc) (ls : Array Slot), o = none → va_P D vwK ws' H → va_D A ws' → va_S A s.heap H locs → ls.size = maxL → W p l e (rmC fr lo 1 6) s m args below meth c H locs 0 0 Q (F0 m pcT ls [])) →
      W p l e (rmC fr lo 1 6) s m args below meth c s.heap [] 0 0 Q (F0 m 0 ls [])) : CX l D cI cJ y wl fr lo av ws ws' k tx sa o := by
  intro sz
  refine vx_ofW (cc := cc) (maxL := maxL) (ret := some .long) hy hw ?_
  intro p e s m args below meth c s₁ B hml hex hv
  obtain ⟨rfl, ⟨hsz, hP, hK, hD0⟩, hZ⟩ := hv
  subst hsz
  have hle := lv_entry av (n := maxL) hn
  have hts := atoms_spec (ws := wl) B.pre
  have hown : s.vm.findClass RX5 = some m.cls := by rw [← hyc]; exact findClass_of_methodNamed B.named
  rw [lg_entry_eq]
  refine body p e s m _ below meth c _ (va_A ws s.heap.size) _ ⟨B.exec, B.bytes, hml, hts, findClass_of_methodNamed B.named, hK, fun q h => Or.inr h, hP, hD0.self, va_S.rf, hle, (name_of_methodNamed B.named B.method).1⟩ ?_ ?_
  · intro H locs pc ls r ho hP hD hS hdg
    exact vx_ret (W.widen (k := 1) (n := 6) (Nat.zero_le _) (Nat.zero_le _) (W.lret (v := r) B.exec B.bytes B.returns (fun t ht hW => ⟨⟨r, (), rfl, ho, by rw [ht]; exact hP, hD⟩, hS.F ht⟩) hS.2.2 hdg B.notSynchronized))
  · intro H locs ls ho hP hD hS hsize
    have hB : ∀ w ∈ xbL, w.before av.toArray s = true := vx_c (va_Nw.use rfl hZ.2.2.2.1) (vx_c (va_Nw.use rfl hZ.2.2.2.2.1) (vx_c (va_Nw.use rfl hZ.2.2.2.2.2.1) (vx_c (va_Nw.use rfl hZ.2.2.2.2.2.2) vx_n)))
    refine vx_throwS (rest := []) (own := RX5) (cls := aeN) (text := tx) (names := aeC) (sa := sa) (A := va_A ws s.heap.size) B.exec B.bytes htr hown (by decide +kernel) (by decide +kernel) (hts _ hk1) (hts _ hk2) hZ.1 (vx_hat (fun w hw => hts w (hk3 w hw)) xb_in hB) xb_ot hZ.2.1 hZ.2.2.1 hS (by rw [hml]; exact hsize) d0 d3 d4 d6 d9 (fun x hx => (hex x hx).elim) hfr hlo (Nat.le_refl _) (Nat.le_refl _) B.notSynchronized ?_ hS.2.2 (Nat.le_refl _) (Nat.le_refl _)
    intro t hal hz hq
    refine ⟨(), ho, ⟨rfl, hP.kept (fun k q hk => hq q.1 (hP k q hk).lt), hD⟩, Nat.le_trans hS.1 hz, fun q h1 h2 => ?_⟩
    rw [hq q (Nat.lt_of_lt_of_le h1 hS.1)]
    exact hS.2.1 q h1 h2
end EnterX
