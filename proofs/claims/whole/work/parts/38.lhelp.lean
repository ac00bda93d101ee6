/-! the law's two helpers, which catch what share and at throw -/
def kAft (o : Option Int64) : Int32 := match o with
  | some _ => 0
  | none => 1
def outAft (o : Option Int64) (f : Nat → Int64) : Nat → Int64 := match o with
  | some r => vp_updL f (Int32.toNatClampNeg 0) r
  | none => f
theorem PX_blind (av : List Value) (D : va_G) (cI cJ : ClassId) (ws : va_W) (k : Nat) (tx : String) (sa sz : Nat) : FrameBlind (va_Pc av (PX D cI cJ ws k tx sa sz)) := by
  intro a U g mk q
  obtain ⟨q0, q1, q2⟩ := q
  obtain ⟨-, h⟩ := PRE_blind av D cI cJ sz ws a U g mk ⟨q0, q1⟩
  exact ⟨q0, h, q2.blind (u := U) rfl⟩
theorem PX_at {s : State} {D : va_G} {cI cJ : ClassId} {wc : va_W} {H : Heap} {A : Nat → Prop} {k : Nat} {tx : String} {sa : Nat} {locs : List Loc} (av : List Value) (hK : KN D cI cJ s) (hZ : XZ k tx sa A s s.heap) (hP : va_P D vwK wc H) (hD : va_D A wc) (hS : va_S A s.heap H locs) (hF : ∀ q, va_A wc H.size q → A q) : ∀ U : State, U.heap = H → s.WarmedH U.vm → va_Pc av (PX D cI cJ wc k tx sa H.size) av.toArray U := by
  intro U hU hW
  obtain ⟨a1, a2⟩ := PRE_at av hK hP hD U hU hW
  refine ⟨a1, a2, ?_⟩
  rw [hU]
  exact ((hZ.kept hS).narrow hF).warm hW
def CY (l : Launch) (D : va_G) (cI cJ : ClassId) (y : MethodName) (wl : List Cond) (fr lo : Nat) (av : List Value) (ws ws' : va_W) (k : Nat) (tx : String) (sa : Nat) (r : Int32) : Prop :=
  ∀ sz : Nat, Met l y wl (rmC fr lo 1 6) (va_Pc av (PX D cI cJ ws k tx sa sz)) (QI D ws ws' sz r) 1 6 (va_A ws sz)
section EnterY
variable {l : Launch} {D : va_G} {cI cJ : ClassId} {y : MethodName} {wl wl' : List Cond} {fr lo : Nat} {av : List Value} {ws ws' : va_W} {cc : ByteArray} {maxL : Nat} {k sa : Nat} {tx : String} {r : Int32} {hh : List (Nat × Nat × Nat × Nat)}
theorem entY (hy : plainName y.cls = true) (hw : wl = Cond.codeWith y cc maxL (some .int) hh :: wl') (hn : (lg_sl av).length ≤ maxL)
    (body : ∀ (p : Program) (e : Env) (s : State) (m : MethodId) (args : Array Value) (below : List Frame) (meth : Method) (c : Code) (ls : Array Slot) (A : Nat → Prop) (Q : State → Prop), Ctx2 p s m args meth c D cI cJ y wl av ws cc maxL A ls → XZ k tx sa A s s.heap → c.exceptionTable.toList = tableOf hh →
      (∀ (H : Heap) (locs : List Loc) (pc : Nat) (ls : Array Slot), va_P D vwK ws' H → va_D A ws' → va_S A s.heap H locs → decode cc pc = .ok (.ireturn, 1) → W p l e (rmC fr lo 1 6) s m args below meth c H locs 1 6 Q (F0 m pc ls [.int r])) →
      W p l e (rmC fr lo 1 6) s m args below meth c s.heap [] 0 0 Q (F0 m 0 ls [])) : CY l D cI cJ y wl fr lo av ws ws' k tx sa r := by
  intro sz
  refine va_MetW (cc := cc) (maxL := maxL) (ret := some .int) hy hw ?_
  intro p e s m args below meth c s₁ B hml hv
  obtain ⟨rfl, ⟨hsz, hP, hK, hD0⟩, hZ⟩ := hv
  subst hsz
  have hle := lv_entry av (n := maxL) hn
  have hts := atoms_spec (ws := wl) B.pre
  have htb := vx_table (x := y) B (hts _ (by rw [hw]; exact List.mem_cons_self))
  rw [lg_entry_eq]
  refine body p e s m _ below meth c _ (va_A ws s.heap.size) _ ⟨B.exec, B.bytes, hml, hts, findClass_of_methodNamed B.named, hK, fun q h => Or.inr h, hP, hD0.self, va_S.rf, hle, (name_of_methodNamed B.named B.method).1⟩ hZ htb ?_
  intro H locs pc ls hP hD hS hdg
  exact W.iret (v := r) B.exec B.bytes B.returns (fun t ht hW => ⟨⟨r, (), rfl, rfl, by rw [ht]; exact hP, hD⟩, hS.F ht⟩) hS.2.2 hdg B.notSynchronized
end EnterY
section CallX
variable {p : Program} {l : Launch} {e : Env} {R : Room} {s : State} {m : MethodId} {args : Array Value} {below : List Frame} {meth : Method} {c : Code} {H : Heap} {locs : List Loc} {cells slots : Nat} {Q : State → Prop} {D : va_G} {cI cJ : ClassId} {A : Nat → Prop}
  {ws wc wc' ws2 : va_W} {y : MethodName} {bytes cc : ByteArray} {maxL nL n index : Nat} {ret : Option FieldType} {wl Ts : List Cond} {fr lo : Nat} {own C : String} {b : Addr} {As rest st0 : List Value} {pc : Nat} {ls : Array Slot} {k sa : Nat} {tx : String} {o : Option Int64}
theorem callX (fx : CallFix p m c cc nL s args Ts own) (hC : CX l D cI cJ y wl fr lo (.ref b :: As) wc wc' k tx sa o) (cw : CallW R s args own C index y bytes maxL ret wl (rmC fr lo 1 6) 1 6 n) (hK : KN D cI cJ s) (hZ : XZ k tx sa A s s.heap) (hP : va_P D vwK ws H) (hD : va_D A ws) (hS : va_S A s.heap H locs) (hA : ∀ q, s.heap.size ≤ q → A q)
    (isC isR is2 : List Nat) (kc : Cut ws wc wc' ws2 isC isR is2) (q0 ci : Nat) {cq : vw_C} {fs : List Value} (hc : vwK[ci]? = some cq) (he : wc[q0]? = some (b, .inr (ci, fs))) (hq : cq.1 = C) (hn : As.length = n) (hsize : ls.size = nL) (hst : st0 = As.reverse ++ .ref b :: rest) (hW : (rest.map fun v => v.category).sum ≤ 8) (hdg : decode cc pc = .ok (.invokevirtual index, 3)) (hcap : cells + 1 ≤ R.cells ∧ slots + 6 ≤ R.slots)
    (kx : ∀ (ce : Cell) (q : Addr) (H : Heap) (locs : List Loc), o = none → va_P D vwK ws2 H → va_D A ws2 → va_S A s.heap H locs → H[q]? = some ce → ce.vm = .none → s.vm.findClass aeN = some ce.cls → vx_W p l e R s m args below meth c H locs (cells + 1) (slots + 6) Q (F0 m pc ls rest) q)
    (kk : ∀ (H : Heap) (locs : List Loc) (r : Int64), o = some r → va_P D vwK ws2 H → va_D A ws2 → va_S A s.heap H locs → W p l e R s m args below meth c H locs (cells + 1) (slots + 6) Q (F0 m (pc + 3) ls (.long r :: rest))) : W p l e R s m args below meth c H locs cells slots Q (F0 m pc ls st0) := by
  subst hq hst
  have hF := kc.free hD hS hA
  refine vx_calll (vx_runV (As := As) (rest := rest) fx (hC H.size) cw ⟨PX_blind _ _ _ _ _ _ _ _ _, va_recv hK.1 (kc.pp hP) hc he, PX_at _ hK hZ (kc.pp hP) (kc.dd hD) hS hF⟩ rfl hn hsize rfl (lv_room hW) hdg hcap) hS (fun q _ h => hF q h) hF (fun q _ h => hF q h) (fun E ce q9 u t H1 locs1 ht hvm hp hB hz1 hk1 hS1 hce hcv hcl => ?_) (fun r1 u t H1 locs1 ht hvm hw hB hz1 hk1 hS1 => ?_)
  · obtain ⟨rfl, hP1, hD1⟩ := hB
    rw [ht] at hP1
    obtain ⟨j1, j2⟩ := kc.join hP hD hS hA hk1 hP1 hD1
    exact kx ce q9 H1 locs1 hp j1 j2 hS1 hce hcv hcl
  · obtain ⟨hP1, hD1⟩ := hB
    rw [ht] at hP1
    obtain ⟨j1, j2⟩ := kc.join hP hD hS hA hk1 hP1 hD1
    exact kk H1 locs1 r1 hw j1 j2 hS1
end CallX
set_option maxHeartbeats 4000000 in
set_option maxRecDepth 100000 in
theorem c_L_share (l : Launch) (htr : l.stackTraces = false) (D : va_G) (cI cJ : ClassId) (h5 h2 h3 h1 h4 labels2a guesses2a lengths2a words2a times2a totals2a sizes2a oa : Nat) (labels2 : Nat → Int32) (guesses2 : Nat → Int32) (lengths2 : Nat → Int32) (words2 : Nat → Int32) (times2 : Nat → Int32) (totals2 : Nat → Int32) (sizes2 : Nat → Int32) (rowCount2 : Int32) (addedUp2 : Int32) (addedDown2 : Int32) (outv : Nat → Int64) (i1 : Int32) (i2 : Int32) (i3 : Int32) (o9 : Option Int64) (sa : Nat) (h : f_X5_share i1 i2 i3 times2 totals2 addedUp2 addedDown2 = some o9) : CY l D cI cJ yL_share wsL_share 7 107 [.ref h5, .int i1, .int i2, .int i3, .ref oa] (w5 h5 h2 h3 h1 h4 ++ w2 cI cJ h2 labels2a guesses2a lengths2a words2a times2a totals2a sizes2a labels2 guesses2 lengths2 words2 times2 totals2 sizes2 rowCount2 addedUp2 addedDown2 ++ [(oa, .inl (cJ, 1, .inr (.inl outv)))]) (w5 h5 h2 h3 h1 h4 ++ w2 cI cJ h2 labels2a guesses2a lengths2a words2a times2a totals2a sizes2a labels2 guesses2 lengths2 words2 times2 totals2 sizes2 rowCount2 addedUp2 addedDown2 ++ [(oa, .inl (cJ, 1, .inr (.inl (outAft o9 outv))))]) 96 "the label has no shares" sa (kAft o9) := by
  refine entY (cc := cL_share) (maxL := 6) (by decide) rfl (Nat.le_of_ble_eq_true rfl) ?_
  intro p e s m args below meth c ls A Q X hZ htb hret
  obtain ⟨hx, hb, hml, hts, hown, hK, hA, hP, hD, hS, hl, hnm⟩ := X
  have hown : s.vm.findClass RL = some m.cls := hown
  have hl : lv_has ls 6 [(0, .ref h5), (1, .int i1), (2, .int i2), (3, .int i3), (4, .ref oa)] := hl
  refine lv_aload hx hb dL_share_0 (lv_at hl 4 rfl) ?_
  refine lv_iconst (v := 0) hx hb dL_share_2 (by decide) ?_
  refine lv_aload_n hx hb dL_share_3 rfl (lv_at hl 0 rfl) ?_
  refine lv_iload_n hx hb dL_share_4 rfl (lv_at hl 1 rfl) ?_
  refine lv_iload_n hx hb dL_share_5 rfl (lv_at hl 2 rfl) ?_
  refine lv_iload_n hx hb dL_share_6 rfl (lv_at hl 3 rfl) ?_
  refine callX (As := [.int i1, .int i2, .int i3]) (rest := [.int 0, .ref oa]) (ws2 := (w5 h5 h2 h3 h1 h4 ++ w2 cI cJ h2 labels2a guesses2a lengths2a words2a times2a totals2a sizes2a labels2 guesses2 lengths2 words2 times2 totals2 sizes2 rowCount2 addedUp2 addedDown2 ++ [(oa, .inl (cJ, 1, .inr (.inl outv)))])) ⟨hx, hb, hml, hown, hts⟩ (c_X5_share l D cI cJ h5 h2 h3 h1 h4 labels2a guesses2a lengths2a words2a times2a totals2a sizes2a labels2 guesses2 lengths2 words2 times2 totals2 sizes2 rowCount2 addedUp2 addedDown2 i1 i2 i3 o9 htr sa h) (cwV 3 hts gL_share_X5_share rfl rfl rfl (by decide +kernel) ⟨Nat.le_of_ble_eq_true rfl, Nat.le_of_ble_eq_true rfl⟩) hK hZ hP hD hS hA [0, 1, 2, 3, 4, 5, 6, 7, 8] [9] [1, 2, 3, 4, 5, 6, 7, 8, 9, 0] ⟨[(oa, .inl (cJ, 1, .inr (.inl outv)))], rfl, rfl, rfl, rfl, by decide, rfl, rfl⟩ 0 4 rfl rfl rfl rfl hl.1 rfl (Nat.le_of_ble_eq_true rfl) dL_share_7 ⟨Nat.le_of_ble_eq_true rfl, Nat.le_of_ble_eq_true rfl⟩ (fun ce q9 H locs ho hP hD hS hce hcv hcl => ?_) (fun H locs r9 ho hP hD hS => ?_)
  · have hw1 : (Cond.classLink RL 13 aeN).before args s = true := hts _ (by decide +kernel)
    refine vy_catch hown ⟨0, 11, 14, 13⟩ [] htb (by decide) (by decide) hw1 hZ.2.2.2.2.2.2 hce hcv hcl ?_
    refine W.eq (g2 := F0 m 14 ls [.ref q9]) rfl ?_
    refine lv_astore (lv' := [(5, .ref q9), (0, .ref h5), (1, .int i1), (2, .int i2), (3, .int i3), (4, .ref oa)]) hx hb dL_share_14 hl (by decide) rfl (fun ls hl => ?_)
    refine lv_iconst (v := 1) hx hb dL_share_16 (by decide) ?_
    subst ho
    exact hret _ _ _ _ hP hD hS dL_share_17
  · have hi : vp_in 0 1 := by unfold vp_in; decide
    refine va_last hx hb hK.1 hP hD hS 9 1 rfl rfl hi dL_share_10 (fun H locs hP hD hS => ?_)
    subst ho
    have hP : va_P D vwK (w5 h5 h2 h3 h1 h4 ++ w2 cI cJ h2 labels2a guesses2a lengths2a words2a times2a totals2a sizes2a labels2 guesses2 lengths2 words2 times2 totals2 sizes2 rowCount2 addedUp2 addedDown2 ++ [(oa, .inl (cJ, 1, .inr (.inl (outAft (some r9) outv))))]) H := hP
    have hD : va_D A (w5 h5 h2 h3 h1 h4 ++ w2 cI cJ h2 labels2a guesses2a lengths2a words2a times2a totals2a sizes2a labels2 guesses2 lengths2 words2 times2 totals2 sizes2 rowCount2 addedUp2 addedDown2 ++ [(oa, .inl (cJ, 1, .inr (.inl (outAft (some r9) outv))))]) := hD
    refine lv_goto (tgt := 18) hx hb dL_share_11 (by decide) ?_
    refine lv_iconst (v := 0) hx hb dL_share_18 (by decide) ?_
    exact hret _ _ _ _ hP hD hS dL_share_19
set_option maxHeartbeats 4000000 in
set_option maxRecDepth 100000 in
theorem c_L_at (l : Launch) (htr : l.stackTraces = false) (D : va_G) (cI cJ : ClassId) (h5 h2 h3 h1 h4 weights1a freshWeights1a signs1a lengths1a sums1a nextSums1a bestFrom1a bestPath1a oa : Nat) (weights1 : Nat → Int32) (freshWeights1 : Nat → Int32) (signs1 : Nat → Int32) (lengths1 : Nat → Int32) (sums1 : Nat → Int64) (nextSums1 : Nat → Int64) (bestFrom1 : Nat → Int64) (bestPath1 : Nat → Int32) (outv : Nat → Int64) (i1 : Int32) (i2 : Int32) (i3 : Int32) (i4 : Int32) (o9 : Option Int64) (sums1z : Nat → Int64) (nextSums1z : Nat → Int64) (sa : Nat) (h : f_X5_at i1 i2 i3 i4 weights1 signs1 lengths1 sums1 nextSums1 = some (o9, sums1z, nextSums1z)) : CY l D cI cJ yL_at wsL_at 7 118 [.ref h5, .int i1, .int i2, .int i3, .int i4, .ref oa] (w5 h5 h2 h3 h1 h4 ++ w1 cI cJ h1 weights1a freshWeights1a signs1a lengths1a sums1a nextSums1a bestFrom1a bestPath1a weights1 freshWeights1 signs1 lengths1 sums1 nextSums1 bestFrom1 bestPath1 ++ [(oa, .inl (cJ, 1, .inr (.inl outv)))]) (w5 h5 h2 h3 h1 h4 ++ w1 cI cJ h1 weights1a freshWeights1a signs1a lengths1a sums1a nextSums1a bestFrom1a bestPath1a weights1 freshWeights1 signs1 lengths1 sums1z nextSums1z bestFrom1 bestPath1 ++ [(oa, .inl (cJ, 1, .inr (.inl (outAft o9 outv))))]) 177 "all paths of the sign row weigh nothing" sa (kAft o9) := by
  refine entY (cc := cL_at) (maxL := 7) (by decide) rfl (Nat.le_of_ble_eq_true rfl) ?_
  intro p e s m args below meth c ls A Q X hZ htb hret
  obtain ⟨hx, hb, hml, hts, hown, hK, hA, hP, hD, hS, hl, hnm⟩ := X
  have hown : s.vm.findClass RL = some m.cls := hown
  have hl : lv_has ls 7 [(0, .ref h5), (1, .int i1), (2, .int i2), (3, .int i3), (4, .int i4), (5, .ref oa)] := hl
  refine lv_aload hx hb dL_at_0 (lv_at hl 5 rfl) ?_
  refine lv_iconst (v := 0) hx hb dL_at_2 (by decide) ?_
  refine lv_aload_n hx hb dL_at_3 rfl (lv_at hl 0 rfl) ?_
  refine lv_iload_n hx hb dL_at_4 rfl (lv_at hl 1 rfl) ?_
  refine lv_iload_n hx hb dL_at_5 rfl (lv_at hl 2 rfl) ?_
  refine lv_iload_n hx hb dL_at_6 rfl (lv_at hl 3 rfl) ?_
  refine lv_iload hx hb dL_at_7 (lv_at hl 4 rfl) ?_
  refine callX (As := [.int i1, .int i2, .int i3, .int i4]) (rest := [.int 0, .ref oa]) (ws2 := (w5 h5 h2 h3 h1 h4 ++ w1 cI cJ h1 weights1a freshWeights1a signs1a lengths1a sums1a nextSums1a bestFrom1a bestPath1a weights1 freshWeights1 signs1 lengths1 sums1z nextSums1z bestFrom1 bestPath1 ++ [(oa, .inl (cJ, 1, .inr (.inl outv)))])) ⟨hx, hb, hml, hown, hts⟩ (c_X5_at l D cI cJ h5 h2 h3 h1 h4 weights1a freshWeights1a signs1a lengths1a sums1a nextSums1a bestFrom1a bestPath1a weights1 freshWeights1 signs1 lengths1 sums1 nextSums1 bestFrom1 bestPath1 i1 i2 i3 i4 o9 sums1z nextSums1z htr sa h) (cwV 4 hts gL_at_X5_at rfl rfl rfl (by decide +kernel) ⟨Nat.le_of_ble_eq_true rfl, Nat.le_of_ble_eq_true rfl⟩) hK hZ hP hD hS hA [0, 1, 2, 3, 4, 5, 6, 7, 8, 9] [10] [1, 2, 3, 4, 5, 6, 7, 8, 9, 10, 0] ⟨[(oa, .inl (cJ, 1, .inr (.inl outv)))], rfl, rfl, rfl, rfl, by decide, rfl, rfl⟩ 0 4 rfl rfl rfl rfl hl.1 rfl (Nat.le_of_ble_eq_true rfl) dL_at_9 ⟨Nat.le_of_ble_eq_true rfl, Nat.le_of_ble_eq_true rfl⟩ (fun ce q9 H locs ho hP hD hS hce hcv hcl => ?_) (fun H locs r9 ho hP hD hS => ?_)
  · have hw1 : (Cond.classLink RL 13 aeN).before args s = true := hts _ (by decide +kernel)
    refine vy_catch hown ⟨0, 13, 16, 13⟩ [] htb (by decide) (by decide) hw1 hZ.2.2.2.2.2.2 hce hcv hcl ?_
    refine W.eq (g2 := F0 m 16 ls [.ref q9]) rfl ?_
    refine lv_astore (lv' := [(6, .ref q9), (0, .ref h5), (1, .int i1), (2, .int i2), (3, .int i3), (4, .int i4), (5, .ref oa)]) hx hb dL_at_16 hl (by decide) rfl (fun ls hl => ?_)
    refine lv_iconst (v := 1) hx hb dL_at_18 (by decide) ?_
    subst ho
    exact hret _ _ _ _ hP hD hS dL_at_19
  · have hi : vp_in 0 1 := by unfold vp_in; decide
    refine va_last hx hb hK.1 hP hD hS 10 1 rfl rfl hi dL_at_12 (fun H locs hP hD hS => ?_)
    subst ho
    have hP : va_P D vwK (w5 h5 h2 h3 h1 h4 ++ w1 cI cJ h1 weights1a freshWeights1a signs1a lengths1a sums1a nextSums1a bestFrom1a bestPath1a weights1 freshWeights1 signs1 lengths1 sums1z nextSums1z bestFrom1 bestPath1 ++ [(oa, .inl (cJ, 1, .inr (.inl (outAft (some r9) outv))))]) H := hP
    have hD : va_D A (w5 h5 h2 h3 h1 h4 ++ w1 cI cJ h1 weights1a freshWeights1a signs1a lengths1a sums1a nextSums1a bestFrom1a bestPath1a weights1 freshWeights1 signs1 lengths1 sums1z nextSums1z bestFrom1 bestPath1 ++ [(oa, .inl (cJ, 1, .inr (.inl (outAft (some r9) outv))))]) := hD
    refine lv_goto (tgt := 20) hx hb dL_at_13 (by decide) ?_
    refine lv_iconst (v := 0) hx hb dL_at_20 (by decide) ?_
    exact hret _ _ _ _ hP hD hS dL_at_21
