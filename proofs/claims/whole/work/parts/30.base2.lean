/-! contracts of methods that make cells: constructors -/
abbrev zI : Nat → Int32 := fun _ => 0
abbrev zL : Nat → Int64 := fun _ => 0
abbrev rmC (fr lo mc ms : Nat) : Room := { frames := fr, cells := mc, slots := ms, locals := lo }
def CG (l : Launch) (D : va_G) (cI cJ : ClassId) (Z : State → Prop) (y : MethodName) (wl : List Cond) (fr lo mc ms : Nat) (av : List Value) (ws : va_W) (E : (Nat → Prop) → Heap → Prop) : Prop :=
  ∀ sz : Nat, Met l y wl (rmC fr lo mc ms) (va_Pc av (fun U => PRE D cI cJ sz ws U ∧ Z U)) (va_Qv (fun _ : Unit => True) (fun _ t => E (va_A ws sz) t.heap) (va_A ws sz)) mc ms (va_A ws sz)
def ZT (_ : State) : Prop := True
def NW5 (U : State) : Prop := va_Nw (.methodLinkNest RX5 9 yX2_init hostN) U ∧ va_Nw (.methodLinkNest RX5 18 yX3_init hostN) U ∧ va_Nw (.methodLinkNest RX5 32 yX4_init hostN) U
/-- a word that goes along with the machine's own changes of its tables -/
def Moves (Z : State → Prop) : Prop := (∀ u U : State, u.vm = U.vm → Z u → Z U) ∧ ∀ u U : State, u.WarmedH U.vm → Z u → Z U
theorem ZT_mv : Moves ZT := ⟨fun _ _ _ _ => trivial, fun _ _ _ _ => trivial⟩
theorem NW5_mv : Moves NW5 := ⟨fun _ _ h n => ⟨n.1.same rfl h, n.2.1.same rfl h, n.2.2.same rfl h⟩, fun _ _ h n => ⟨n.1.warmM h, n.2.1.warmM h, n.2.2.warmM h⟩⟩
section Enter3
variable {l : Launch} {D : va_G} {cI cJ : ClassId} {y : MethodName} {wl wl' : List Cond} {fr lo mc ms : Nat} {av : List Value} {ws : va_W} {cc : ByteArray} {maxL : Nat} {Z : State → Prop} {E : (Nat → Prop) → Heap → Prop}
theorem entC (hy : plainName y.cls = true) (hw : wl = Cond.code y cc maxL none :: wl') (hn : (lg_sl av).length ≤ maxL)
    (body : ∀ (p : Program) (e : Env) (s : State) (m : MethodId) (args : Array Value) (below : List Frame) (meth : Method) (c : Code) (ls : Array Slot) (A : Nat → Prop) (Q : State → Prop), Ctx2 p s m args meth c D cI cJ y wl av ws cc maxL A ls → Z s →
      (∀ (H : Heap) (locs : List Loc) (pc : Nat) (ls : Array Slot), E A H → va_S A s.heap H locs → decode cc pc = .ok (.return_, 1) → W p l e (rmC fr lo mc ms) s m args below meth c H locs mc ms Q (F0 m pc ls [])) →
      W p l e (rmC fr lo mc ms) s m args below meth c s.heap [] 0 0 Q (F0 m 0 ls [])) : CG l D cI cJ Z y wl fr lo mc ms av ws E := by
  intro sz
  refine Met.ofW (cc := cc) (maxL := maxL) (ret := none) hy hw ?_
  intro p e s m args below meth c s₁ B hml hv
  obtain ⟨rfl, ⟨hsz, hP, hK, hD0⟩, hZ⟩ := hv
  subst hsz
  have hl := lv_entry av (n := maxL) hn
  rw [lg_entry_eq]
  exact body p e s m _ below meth c _ (va_A ws s.heap.size) _ ⟨B.exec, B.bytes, hml, atoms_spec (ws := wl) B.pre, findClass_of_methodNamed B.named, hK, fun q h => Or.inr h, hP, hD0.self, va_S.rf, hl, (name_of_methodNamed B.named B.method).1⟩ hZ
    (fun H locs pc ls hE hS hdg => W.vret B.exec B.bytes B.returns (fun t ht hW => ⟨⟨(), rfl, trivial, by show E _ t.heap; rw [ht]; exact hE⟩, hS.F ht⟩) hS.2.2 hdg B.notSynchronized)
end Enter3
section New
variable {p : Program} {l : Launch} {e : Env} {R : Room} {s : State} {m : MethodId} {args : Array Value} {below : List Frame} {meth : Method} {c : Code} {H : Heap} {locs : List Loc} {cells slots : Nat} {Q : State → Prop} {D : va_G} {cI cJ : ClassId} {A : Nat → Prop} {ws : va_W} {cc : ByteArray} {pc : Nat} {ls : Array Slot} {rest : List Value}
theorem newI (hx : p.tables.exec = Jvm.exec) (hb : c.code = cc) (harr : (Cond.arrayClass .int).before args s = true) (hK : KN D cI cJ s) (hP : va_P D vwK ws H) (hD : va_D A ws) (hS : va_S A s.heap H locs) (hA : ∀ q, s.heap.size ≤ q → A q) {n : Int32} {N : Nat} (hn : ¬ n < 0) (hN : n.toNatClampNeg = N) (hbytes : N * componentBytes .int ≤ 536870912) (hcells : cells + 1 ≤ R.cells) (hslots : slots + N ≤ R.slots) (hdg : decode cc pc = .ok (.newarray .int, 2))
    (kk : ∀ (q : Nat) (H : Heap), va_P D vwK (ws ++ [(q, .inl (cI, N, .inl zI))]) H → va_D A (ws ++ [(q, .inl (cI, N, .inl zI))]) → va_S A s.heap H locs → W p l e R s m args below meth c H locs (cells + 1) (slots + N) Q (F0 m (pc + 2) ls (.ref q :: rest))) : W p l e R s m args below meth c H locs cells slots Q (F0 m pc ls (.int n :: rest)) := by
  refine va_newa (a0 := (N, .inl zI)) hx hb (atype := .int) harr rfl hK.1 hP hD hS hA (fun cA => rfl) hn hN hbytes hcells hslots hdg (fun q cA H1 hK1 hP1 hD1 hS1 => ?_)
  have e1 : s.vm.findClass ("[" ++ FieldType.toString .int) = some cI := (hK1.2 0 (cI, .int) rfl).2
  have e2 : s.vm.findClass ("[" ++ FieldType.toString .int) = some cA := (hK1.2 2 (cA, .int) rfl).2
  have e3 : cA = cI := Option.some.inj (e2.symm.trans e1)
  subst e3
  exact kk q H1 hP1 hD1 hS1
theorem newL (hx : p.tables.exec = Jvm.exec) (hb : c.code = cc) (harr : (Cond.arrayClass .long).before args s = true) (hK : KN D cI cJ s) (hP : va_P D vwK ws H) (hD : va_D A ws) (hS : va_S A s.heap H locs) (hA : ∀ q, s.heap.size ≤ q → A q) {n : Int32} {N : Nat} (hn : ¬ n < 0) (hN : n.toNatClampNeg = N) (hbytes : N * componentBytes .long ≤ 536870912) (hcells : cells + 1 ≤ R.cells) (hslots : slots + N ≤ R.slots) (hdg : decode cc pc = .ok (.newarray .long, 2))
    (kk : ∀ (q : Nat) (H : Heap), va_P D vwK (ws ++ [(q, .inl (cJ, N, .inr (.inl zL)))]) H → va_D A (ws ++ [(q, .inl (cJ, N, .inr (.inl zL)))]) → va_S A s.heap H locs → W p l e R s m args below meth c H locs (cells + 1) (slots + N) Q (F0 m (pc + 2) ls (.ref q :: rest))) : W p l e R s m args below meth c H locs cells slots Q (F0 m pc ls (.int n :: rest)) := by
  refine va_newa (a0 := (N, .inr (.inl zL))) hx hb (atype := .long) harr rfl hK.1 hP hD hS hA (fun cA => rfl) hn hN hbytes hcells hslots hdg (fun q cA H1 hK1 hP1 hD1 hS1 => ?_)
  have e1 : s.vm.findClass ("[" ++ FieldType.toString .long) = some cJ := (hK1.2 1 (cJ, .long) rfl).2
  have e2 : s.vm.findClass ("[" ++ FieldType.toString .long) = some cA := (hK1.2 2 (cA, .long) rfl).2
  have e3 : cA = cJ := Option.some.inj (e2.symm.trans e1)
  subst e3
  exact kk q H1 hP1 hD1 hS1
end New
section Call3
variable {p : Program} {l : Launch} {e : Env} {R : Room} {s : State} {m : MethodId} {args : Array Value} {below : List Frame} {meth : Method} {c : Code} {H : Heap} {locs : List Loc} {cells slots : Nat} {Q : State → Prop} {D : va_G} {cI cJ : ClassId} {A : Nat → Prop}
  {ws wc wr : va_W} {y : MethodName} {bytes cc : ByteArray} {maxL nL index : Nat} {wl Ts : List Cond} {fr lo mc ms : Nat} {own : String} {b : Addr} {rest st0 : List Value} {pc : Nat} {ls : Array Slot} {Z : State → Prop} {E : (Nat → Prop) → Heap → Prop}
theorem PREZ_blind (av : List Value) (hZ : Moves Z) (sz : Nat) : FrameBlind (va_Pc av (fun U => PRE D cI cJ sz wc U ∧ Z U)) := by
  intro a U g mk q
  obtain ⟨q0, q1, q2⟩ := q
  obtain ⟨-, h⟩ := PRE_blind av D cI cJ sz wc a U g mk ⟨q0, q1⟩
  exact ⟨q0, h, hZ.1 U _ rfl q2⟩
theorem callInit (hC : CG l D cI cJ Z y wl fr lo mc ms [.ref b] wc E) (hr : ∀ (hM : Met l y wl (rmC fr lo mc ms) (va_Pc [.ref b] (fun U => PRE D cI cJ H.size wc U ∧ Z U)) (va_Qv (fun _ : Unit => True) (fun _ t => E (va_A wc H.size) t.heap) (va_A wc H.size)) mc ms (va_A wc H.size)) (hp : PreS s H (va_Pc [.ref b] (fun U => PRE D cI cJ H.size wc U ∧ Z U)) [.ref b]), va_Run p l e R s m args below meth c H locs cells slots mc ms (F0 m pc ls st0) rest (va_Qv (fun _ : Unit => True) (fun _ t => E (va_A wc H.size) t.heap) (va_A wc H.size) [Value.ref b].toArray) (va_A wc H.size))
    (hZ : Moves Z) (hz : Z s) (hK : KN D cI cJ s) (hP : va_P D vwK ws H) (hD : va_D A ws) (hS : va_S A s.heap H locs) (hA : ∀ q, s.heap.size ≤ q → A q) (isC isR : List Nat) (h1 : isC.map (fun i => ws[i]?) = wc.map some) (h2 : va_nd isC = true) (h3 : isR.map (fun i => ws[i]?) = wr.map some) (h4 : va_nd isR = true) (h5 : ∀ i ∈ isR, i ∉ isC)
    (kk : ∀ (H1 : Heap) (locs : List Loc), E (va_A wc H.size) H1 → (∀ w1 : va_W, va_P D vwK w1 H1 → va_D (va_A wc H.size) w1 → va_P D vwK (wr ++ w1) H1 ∧ va_D A (wr ++ w1)) → va_S A s.heap H1 locs → W p l e R s m args below meth c H1 locs (cells + mc) (slots + ms) Q (F0 m (pc + 3) ls rest)) : W p l e R s m args below meth c H locs cells slots Q (F0 m pc ls st0) := by
  have hF : ∀ q, va_A wc H.size q → A q := va_free hD hS hA isC h1
  have hPc := hP.sub isC (fm_of_map h1)
  have hDc := hD.sub isC h2 h1
  refine va_callv (hr (hC H.size) ⟨PREZ_blind _ hZ _, fun U hU hW => ?_⟩) hS (fun q _ h => hF q h) hF (fun u t H1 locs1 ht hvm hw hB hz1 hk1 hS1 => ?_)
  · obtain ⟨a1, a2⟩ := PRE_at [.ref b] hK hPc hDc U hU hW
    exact ⟨a1, a2, hZ.2 _ _ hW hz⟩
  · rw [ht] at hB
    exact kk H1 locs1 hB (fun w1 hP1 hD1 => va_join hP hD isC isR h1 h3 h4 h5 hk1 hF hP1 hD1) hS1
end Call3
