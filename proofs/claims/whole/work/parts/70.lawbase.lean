/-! THE CLAIM OUT OF ONE WALK OF THE LAW'S BODY. Your part is whole_start (and what it stands on); all else here is the same for every law, but numbers. -/
def R_law : String := "CountLearnersLaw"
def lw_P (b : Addr) (xs : List Int32) (args : Array Value) (s : State) : Prop := args = #[.ref b] ∧ s.IntsAt b xs ∧ xs.length ≤ 2560 ∧ (Jvm.Cond.and given_1 narrow_1).before args s = true
def lw_Q (_ : Array Value) (s : State) (o : Outcome) (t : State) : Prop := o = .returned (some (.int 1)) ∧ Framed s o t [] 1071 9570
def lw_Z (below : List Frame) (a : Array Value) (s : State) : State → Prop := fun t => ∃ o, t.status = .running ∧ Ended t below o ∧ lw_Q a s o t
/-- the law's own end, with 1 on the stack, nothing written that was there before, its room as the claim has it -/
theorem lw_ret {p : Program} {l : Launch} {e : Env} {s : State} {m : MethodId} {below : List Frame} {meth : Method} {c : Code} {b : Nat} (hx : p.tables.exec = Jvm.exec) (hb : c.code = code) (hr : meth.sig.returnType = ret) (hlocks : meth.locks = false) {pc : Nat} {H : Heap} {ls : Array Slot} (hdg : decode code pc = .ok (.ireturn, 1)) : W p l e room_1 s m #[Value.ref b] below meth c H [] 1071 9570 (lw_Z below #[Value.ref b] s) (F0 m pc ls [.int 1]) := by
  intro T hT X
  obtain ⟨fs, hret, hrun, hended, hW, hframe⟩ := X.leave (v := some (.int 1)) (hlocks := hlocks) (fun h => by rw [hr] at h; cases h)
  have hmeth' : T.vm.method? m = some meth := X.method'
  refine ⟨T.setFrames fs, ?_, .returned (some (.int 1)), hrun, hended, rfl, ⟨_, rfl⟩, hW, hframe⟩
  jvm_step X.here [X.here.top, hx, hb, hdg, hmeth', hr, ret, narrow_b1]
  (try refine ⟨rfl, ?_⟩); (try refine ⟨rfl, ?_⟩)
  first | (intro acts; rw [hret _ acts rfl rfl rfl]) | rw [hret _ _ rfl rfl rfl]
  exact Steps.refl _
/-- what holds at the law's entry: the machine, the code, the tables' words (any of lw_tbl by 'hts w (by decide +kernel)'), the script of L ints xs at the cell b, what the Statement gives of the start (any of its parts by flat_of_before) -/
def lw_At (p : Program) (s : State) (m : MethodId) (meth : Method) (c : Code) (b L : Nat) (xs : Nat → Int32) : Prop :=
  p.tables.exec = Jvm.exec ∧ c.code = code ∧ meth.sig.returnType = ret ∧ c.maxLocals = 8 ∧ s.vm.findClass R_law = some m.cls ∧ (∀ w ∈ lw_tbl, w.before #[Value.ref b] s = true) ∧ va_X b L xs s s.heap ∧ b < s.heap.size ∧ meth.locks = false ∧ (Jvm.Cond.and given_1 narrow_1).before #[Value.ref b] s = true
/-! my part: the law's world, and what holds at the head of its loop -/
abbrev LWO (cI cJ : ClassId) (h5 h6 oa h2 labels2a guesses2a lengths2a words2a times2a totals2a sizes2a h3 text3a behind3a uppers3a h1 weights1a freshWeights1a signs1a lengths1a sums1a nextSums1a bestFrom1a bestPath1a h4 support4a having4a keys4a labels6a guesses6a comes6a sizes6a words6a told6a behind6a shares6a start6a move6a show6a signs6a many6a bestPath6a nextStart6a nextMove6a nextShow6a : Nat) (labels2 : Nat → Int32) (guesses2 : Nat → Int32) (lengths2 : Nat → Int32) (words2 : Nat → Int32) (times2 : Nat → Int32) (totals2 : Nat → Int32) (sizes2 : Nat → Int32) (rowCount2 : Int32) (addedUp2 : Int32) (addedDown2 : Int32) (text3 : Nat → Int32) (behind3 : Nat → Int32) (uppers3 : Nat → Int64) (lower3 : Int64) (textLength3 : Int32) (weights1 : Nat → Int32) (freshWeights1 : Nat → Int32) (signs1 : Nat → Int32) (lengths1 : Nat → Int32) (sums1 : Nat → Int64) (nextSums1 : Nat → Int64) (bestFrom1 : Nat → Int64) (bestPath1 : Nat → Int32) (support4 : Nat → Int32) (having4 : Nat → Int32) (keys4 : Nat → Int32) (ruleCount4 : Int32) (thrown6 : Int32) (rows6 : Int32) (labels6 : Nat → Int32) (guesses6 : Nat → Int32) (comes6 : Nat → Int32) (sizes6 : Nat → Int32) (words6 : Nat → Int32) (up6 : Int32) (down6 : Int32) (weightAbove6 : Int64) (weightBelow6 : Int64) (told6 : Nat → Int32) (length6 : Int32) (behind6 : Nat → Int32) (shares6 : Nat → Int64) (over6 : Int64) (start6 : Nat → Int32) (move6 : Nat → Int32) (show6 : Nat → Int32) (signs6 : Nat → Int32) (many6 : Nat → Int32) (bestPath6 : Nat → Int32) (nextStart6 : Nat → Int32) (nextMove6 : Nat → Int32) (nextShow6 : Nat → Int32) (outv : Nat → Int64) : va_W := w5 h5 h2 h3 h1 h4 ++ w2 cI cJ h2 labels2a guesses2a lengths2a words2a times2a totals2a sizes2a labels2 guesses2 lengths2 words2 times2 totals2 sizes2 rowCount2 addedUp2 addedDown2 ++ w3 cI cJ h3 text3a behind3a uppers3a text3 behind3 uppers3 lower3 textLength3 ++ w1 cI cJ h1 weights1a freshWeights1a signs1a lengths1a sums1a nextSums1a bestFrom1a bestPath1a weights1 freshWeights1 signs1 lengths1 sums1 nextSums1 bestFrom1 bestPath1 ++ w4 cI cJ h4 support4a having4a keys4a support4 having4 keys4 ruleCount4 ++ w6 cI cJ h6 labels6a guesses6a comes6a sizes6a words6a told6a behind6a shares6a start6a move6a show6a signs6a many6a bestPath6a nextStart6a nextMove6a nextShow6a thrown6 rows6 labels6 guesses6 comes6 sizes6 words6 up6 down6 weightAbove6 weightBelow6 told6 length6 behind6 shares6 over6 start6 move6 show6 signs6 many6 bestPath6 nextStart6 nextMove6 nextShow6 ++ [(oa, .inl (cJ, 1, .inr (.inl outv)))]
def LInv (D : va_G) (cI cJ : ClassId) (A : Nat → Prop) (h5 h6 oa : Nat) (H : Heap) : Prop := ∃ (h2 labels2a guesses2a lengths2a words2a times2a totals2a sizes2a h3 text3a behind3a uppers3a h1 weights1a freshWeights1a signs1a lengths1a sums1a nextSums1a bestFrom1a bestPath1a h4 support4a having4a keys4a labels6a guesses6a comes6a sizes6a words6a told6a behind6a shares6a start6a move6a show6a signs6a many6a bestPath6a nextStart6a nextMove6a nextShow6a : Nat) (labels2 : Nat → Int32) (guesses2 : Nat → Int32) (lengths2 : Nat → Int32) (words2 : Nat → Int32) (times2 : Nat → Int32) (totals2 : Nat → Int32) (sizes2 : Nat → Int32) (rowCount2 : Int32) (addedUp2 : Int32) (addedDown2 : Int32) (text3 : Nat → Int32) (behind3 : Nat → Int32) (uppers3 : Nat → Int64) (lower3 : Int64) (textLength3 : Int32) (weights1 : Nat → Int32) (freshWeights1 : Nat → Int32) (signs1 : Nat → Int32) (lengths1 : Nat → Int32) (sums1 : Nat → Int64) (nextSums1 : Nat → Int64) (bestFrom1 : Nat → Int64) (bestPath1 : Nat → Int32) (support4 : Nat → Int32) (having4 : Nat → Int32) (keys4 : Nat → Int32) (ruleCount4 : Int32) (thrown6 : Int32) (rows6 : Int32) (labels6 : Nat → Int32) (guesses6 : Nat → Int32) (comes6 : Nat → Int32) (sizes6 : Nat → Int32) (words6 : Nat → Int32) (up6 : Int32) (down6 : Int32) (weightAbove6 : Int64) (weightBelow6 : Int64) (told6 : Nat → Int32) (length6 : Int32) (behind6 : Nat → Int32) (shares6 : Nat → Int64) (over6 : Int64) (start6 : Nat → Int32) (move6 : Nat → Int32) (show6 : Nat → Int32) (signs6 : Nat → Int32) (many6 : Nat → Int32) (bestPath6 : Nat → Int32) (nextStart6 : Nat → Int32) (nextMove6 : Nat → Int32) (nextShow6 : Nat → Int32) (outv : Nat → Int64), va_P D vwK (LWO cI cJ h5 h6 oa h2 labels2a guesses2a lengths2a words2a times2a totals2a sizes2a h3 text3a behind3a uppers3a h1 weights1a freshWeights1a signs1a lengths1a sums1a nextSums1a bestFrom1a bestPath1a h4 support4a having4a keys4a labels6a guesses6a comes6a sizes6a words6a told6a behind6a shares6a start6a move6a show6a signs6a many6a bestPath6a nextStart6a nextMove6a nextShow6a labels2 guesses2 lengths2 words2 times2 totals2 sizes2 rowCount2 addedUp2 addedDown2 text3 behind3 uppers3 lower3 textLength3 weights1 freshWeights1 signs1 lengths1 sums1 nextSums1 bestFrom1 bestPath1 support4 having4 keys4 ruleCount4 thrown6 rows6 labels6 guesses6 comes6 sizes6 words6 up6 down6 weightAbove6 weightBelow6 told6 length6 behind6 shares6 over6 start6 move6 show6 signs6 many6 bestPath6 nextStart6 nextMove6 nextShow6 outv) H ∧ va_D A (LWO cI cJ h5 h6 oa h2 labels2a guesses2a lengths2a words2a times2a totals2a sizes2a h3 text3a behind3a uppers3a h1 weights1a freshWeights1a signs1a lengths1a sums1a nextSums1a bestFrom1a bestPath1a h4 support4a having4a keys4a labels6a guesses6a comes6a sizes6a words6a told6a behind6a shares6a start6a move6a show6a signs6a many6a bestPath6a nextStart6a nextMove6a nextShow6a labels2 guesses2 lengths2 words2 times2 totals2 sizes2 rowCount2 addedUp2 addedDown2 text3 behind3 uppers3 lower3 textLength3 weights1 freshWeights1 signs1 lengths1 sums1 nextSums1 bestFrom1 bestPath1 support4 having4 keys4 ruleCount4 thrown6 rows6 labels6 guesses6 comes6 sizes6 words6 up6 down6 weightAbove6 weightBelow6 told6 length6 behind6 shares6 over6 start6 move6 show6 signs6 many6 bestPath6 nextStart6 nextMove6 nextShow6 outv) ∧ INVr labels2 guesses2 lengths2 words2 times2 totals2 sizes2 rowCount2 addedUp2 addedDown2 rows6 labels6 guesses6 sizes6 words6 up6 down6 ∧ INVt text3 textLength3 told6 length6 ∧ INVs weights1 signs1 lengths1 start6 move6 show6 signs6 many6
def LC (p : Program) (s : State) (m : MethodId) (meth : Method) (c : Code) (b L : Nat) (xs : Nat → Int32) (D : va_G) (cI cJ : ClassId) : Prop := lw_At p s m meth c b L xs ∧ KN D cI cJ s ∧ (∃ sa, XZ 96 "the label has no shares" sa (fun q : Nat => s.heap.size ≤ q) s s.heap) ∧ (∃ sa, XZ 177 "all paths of the sign row weigh nothing" sa (fun q : Nat => s.heap.size ≤ q) s s.heap) ∧ L ≤ 2560
section Rd
variable {p : Program} {l : Launch} {e : Env} {R : Room} {s : State} {m : MethodId} {args : Array Value} {below : List Frame} {meth : Method} {c : Code} {H : Heap} {locs : List Loc} {cells slots : Nat} {Q : State → Prop} {cc : ByteArray} {pc : Nat} {ls : Array Slot} {rest : List Value} {A : Nat → Prop}
/-- script[i + k] -/
theorem rdK (hx : p.tables.exec = Jvm.exec) (hb : c.code = cc) {b L : Nat} {xs : Nat → Int32} (hX : va_X b L xs s s.heap) (hbl : b < s.heap.size) (hbA : ¬ A b) (hS : va_S A s.heap H locs) {i : Nat} (k : Nat) {kn : Int} {a : Int32} (ha : a = xs (i + k)) {kv : Int32} (h0 : ls[0]? = some (.val (.ref b))) (h4 : ls[4]? = some (.val (.int (nI i)))) (hkv : kv = nI k) (hk : Int32.ofInt kn = kv) (hik : i + k < L) (hL : L < 2 ^ 31) (d0 : decode cc pc = .ok (.aload_n 0, 1)) (d1 : decode cc (pc + 1) = .ok (.iload 4, 2)) (d3 : decode cc (pc + 3) = .ok (.iconst kn, 1)) (d4 : decode cc (pc + 4) = .ok (.iadd, 1)) (d5 : decode cc (pc + 5) = .ok (.iaload, 1))
    (kk : W p l e R s m args below meth c H locs cells slots Q (F0 m (pc + 6) ls (.int a :: rest))) : W p l e R s m args below meth c H locs cells slots Q (F0 m pc ls rest) := by
  refine lv_aload_n hx hb d0 rfl h0 ?_
  refine lv_iload hx hb d1 h4 ?_
  refine lv_iconst (v := kv) hx hb d3 hk ?_
  refine lv_iadd hx hb d4 ?_
  have e : nI i + kv = nI (i + k) := by rw [hkv, nI_add]
  rw [e]
  refine va_sld hx hb hX hbl hbA hS (vp_in_nI hik hL) d5 ?_
  rw [nI_clamp (by omega), ← ha]
  exact kk
end Rd
section CallY
variable {p : Program} {l : Launch} {e : Env} {R : Room} {s : State} {m : MethodId} {args : Array Value} {below : List Frame} {meth : Method} {c : Code} {H : Heap} {locs : List Loc} {cells slots : Nat} {Q : State → Prop} {D : va_G} {cI cJ : ClassId} {A : Nat → Prop}
  {ws wc wc' ws2 : va_W} {y : MethodName} {bytes cc : ByteArray} {maxL nL n index : Nat} {ret : Option FieldType} {wl Ts : List Cond} {fr lo : Nat} {own : String} {As rest st0 : List Value} {pc : Nat} {ls : Array Slot} {k sa : Nat} {tx : String} {r : Int32} {hh : List (Nat × Nat × Nat × Nat)}
theorem callYi (fx : CallFix p m c cc nL s args Ts own) (hC : CY l D cI cJ y wl fr lo As wc wc' k tx sa r) (cw : vx_CSW R s args own index y bytes maxL ret hh wl (rmC fr lo 1 6) 1 6 n) (hK : KN D cI cJ s) (hZ : XZ k tx sa A s s.heap) (hP : va_P D vwK ws H) (hD : va_D A ws) (hS : va_S A s.heap H locs) (hA : ∀ q, s.heap.size ≤ q → A q)
    (isC isR is2 : List Nat) (kc : Cut ws wc wc' ws2 isC isR is2) (hn : As.length = n) (hsize : ls.size = nL) (hst : st0 = As.reverse ++ rest) (hW : (rest.map fun v => v.category).sum ≤ 8) (hdg : decode cc pc = .ok (.invokestatic index, 3)) (hcap : cells + 1 ≤ R.cells ∧ slots + 6 ≤ R.slots)
    (kk : ∀ (H : Heap) (locs : List Loc), va_P D vwK ws2 H → va_D A ws2 → va_S A s.heap H locs → W p l e R s m args below meth c H locs (cells + 1) (slots + 6) Q (F0 m (pc + 3) ls (.int r :: rest))) : W p l e R s m args below meth c H locs cells slots Q (F0 m pc ls st0) := by
  subst hst
  have hF := kc.free hD hS hA
  refine va_calli (vx_runSW (As := As) (rest := rest) fx (hC H.size) cw ⟨PX_blind _ _ _ _ _ _ _ _ _, PX_at _ hK hZ (kc.pp hP) (kc.dd hD) hS hF⟩ rfl hn hsize rfl (lv_room hW) hdg hcap) hS (fun q _ h => hF q h) hF (fun r1 u t H1 locs1 ht hvm hw hB hz1 hk1 hS1 => ?_)
  obtain ⟨hP1, hD1⟩ := hB
  rw [ht] at hP1
  subst hw
  obtain ⟨j1, j2⟩ := kc.join hP hD hS hA hk1 hP1 hD1
  exact kk H1 locs1 j1 j2 hS1
end CallY
/-- the beginning -/
theorem init1 : ∃ w, f_X1_init = some w ∧ ∀ k, k < 36 → w k = nI 1 := by
  obtain ⟨w, p1, p2⟩ := setAll_f (N := 36) (by decide) zI 1
  refine ⟨w, ?_, fun k hk => by rw [p2, if_pos hk]; rfl⟩
  unfold f_X1_init
  rw [p1]
  rfl
theorem init6 : ∃ a b c, f_X6_init = some (a, b, c) ∧ (∀ k, k < 4 → a k = nI 1) ∧ (∀ k, k < 16 → b k = nI 1) ∧ ∀ k, k < 16 → c k = nI 1 := by
  have hF := FU_ge
  obtain ⟨a, h1, h2⟩ := loop_inv (fun fu j (f : Nat → Int32) => f_X6_init_L149 fu j f) 4 (fun j f => ∀ k, k < j → f k = nI 1) (fun fu f _ => by
    show f_X6_init_L149 (fu + 1) _ _ = _
    rw [f_X6_init_L149.eq_2, if_pos (show (4 : Int32) ≤ nI 4 by decide)]) (fun fu j f hj hf => by
    refine ⟨upd f j 1, fun k hk => ?_, ?_⟩
    · rw [upd_eq]
      by_cases q : k = j
      · rw [if_pos q]; rfl
      · rw [if_neg q]; exact hf k (by omega)
    · show f_X6_init_L149 (fu + 1) _ _ = f_X6_init_L149 fu _ _
      rw [f_X6_init_L149.eq_2, if_neg (show ¬ (4 : Int32) ≤ nI j from nI_ge (b := 4) hj (by decide)), sI_n hj (by decide)]
      simp only [nm, nI_1]) 4 0 FU zI (by omega) (by omega) (fun k hk => absurd hk (Nat.not_lt_zero k))
  obtain ⟨⟨b, c⟩, ⟨g1, g2⟩, g3⟩ := loop_inv (fun fu j (f : (Nat → Int32) × (Nat → Int32)) => f_X6_init_L169 fu j f.1 f.2) 16 (fun j f => (∀ k, k < j → f.1 k = nI 1) ∧ ∀ k, k < j → f.2 k = nI 1) (fun fu f _ => by
    show f_X6_init_L169 (fu + 1) _ _ _ = _
    rw [f_X6_init_L169.eq_2, if_pos (show (16 : Int32) ≤ nI 16 by decide)]) (fun fu j f hj hf => by
    obtain ⟨f, g⟩ := f
    obtain ⟨h1, h2⟩ := hf
    refine ⟨(upd f j 1, upd g j 1), ⟨fun k hk => ?_, fun k hk => ?_⟩, ?_⟩
    · show upd f j 1 k = _
      rw [upd_eq]
      by_cases q : k = j
      · rw [if_pos q]; rfl
      · rw [if_neg q]; exact h1 k (by omega)
    · show upd g j 1 k = _
      rw [upd_eq]
      by_cases q : k = j
      · rw [if_pos q]; rfl
      · rw [if_neg q]; exact h2 k (by omega)
    · show f_X6_init_L169 (fu + 1) _ f g = f_X6_init_L169 fu _ (upd f j 1) (upd g j 1)
      rw [f_X6_init_L169.eq_2, if_neg (show ¬ (16 : Int32) ≤ nI j from nI_ge (b := 16) hj (by decide)), sI_n hj (by decide), sI_n hj (by decide)]
      simp only [nm, nI_1]) 16 0 FU (zI, zI) (by omega) (by omega) ⟨fun k hk => absurd hk (Nat.not_lt_zero k), fun k hk => absurd hk (Nat.not_lt_zero k)⟩
  refine ⟨a, b, c, ?_, h1, g1, g2⟩
  unfold f_X6_init
  simp only [nm]
  rw [i0, show f_X6_init_L149 FU (nI 0) zI = _ from h2, Option.bind_some]
  simp only
  rw [show f_X6_init_L169 FU (nI 0) zI zI = _ from g3]
  rfl
theorem init_r : INVr zI zI zI zI zI zI zI 0 1 1 0 zI zI zI zI 1 1 := by
  refine ⟨rfl, rfl, rfl, rfl, rfl, rfl, rfl, 0, fun _ => 0, fun _ => 0, 1, 1, rfl, ⟨by decide, fun k hk => absurd hk (Nat.not_lt_zero k), fun k hk => absurd hk (Nat.not_lt_zero k), fun k hk => absurd hk (Nat.not_lt_zero k), fun k j hk => absurd hk (Nat.not_lt_zero k)⟩, ⟨fun a ha w hw => rfl, fun a ha => rfl, fun a ha => rfl⟩, rfl, by decide, rfl, by decide, by decide, fun k _ _ => rfl, fun k hk => absurd hk (Nat.not_lt_zero k)⟩
theorem init_s {w a b c : Nat → Int32} (hw : ∀ k, k < 36 → w k = nI 1) (ha : ∀ k, k < 4 → a k = nI 1) (hb : ∀ k, k < 16 → b k = nI 1) (hc : ∀ k, k < 16 → c k = nI 1) : INVs w zI zI a b c zI zI := by
  refine ⟨rfl, rfl, fun _ => 0, fun _ => 0, fun _ => 1, ⟨fun r _ => ⟨rfl, (by decide : (0 : Nat) ≤ 5)⟩, fun r j _ hj => absurd hj (Nat.not_lt_zero j)⟩, fun k hk => ⟨hw k hk, (by decide : (1 : Nat) ≤ 21)⟩, fun k hk => ?_, fun k hk => ?_, fun k hk => ?_⟩
  · rw [ha k hk, hw k (by omega)]
  · rw [hb k hk, hw _ (by omega)]
  · rw [hc k hk, hw _ (by omega)]
/-! cells in another order; a callee's cells in front -/
theorem va_P_perm {D : va_G} {cl : List vw_C} {ws ws' : va_W} {H : Heap} (h : List.Perm ws ws') (hP : va_P D cl ws H) : va_P D cl ws' H := by
  intro k q hk
  obtain ⟨i, hi⟩ := List.getElem?_of_mem (h.mem_iff.mpr (List.mem_of_getElem? hk))
  exact hP i q hi
theorem va_D_nd {A : Nat → Prop} {ws : va_W} (hD : va_D A ws) : (ws.map Prod.fst).Nodup := by
  refine List.pairwise_iff_getElem.mpr (fun i j hi hj hij e => ?_)
  rw [List.length_map] at hi hj
  rw [List.getElem_map, List.getElem_map] at e
  have := hD.1 i j _ _ (List.getElem?_eq_getElem hi) (List.getElem?_eq_getElem hj) e
  omega
theorem va_D_perm {A : Nat → Prop} {ws ws' : va_W} (h : List.Perm ws ws') (hD : va_D A ws) : va_D A ws' := by
  have hn : (ws'.map Prod.fst).Nodup := (h.map Prod.fst).nodup_iff.mp (va_D_nd hD)
  have hn := List.pairwise_iff_getElem.mp hn
  refine ⟨fun i j p q hi hj e => ?_, fun k q hk => ?_⟩
  · obtain ⟨hi1, hi2⟩ := List.getElem?_eq_some_iff.mp hi
    obtain ⟨hj1, hj2⟩ := List.getElem?_eq_some_iff.mp hj
    rcases Nat.lt_trichotomy i j with c | c | c
    · exact absurd (by rw [List.getElem_map, List.getElem_map, hi2, hj2]; exact e) (hn i j (by rw [List.length_map]; exact hi1) (by rw [List.length_map]; exact hj1) c)
    · exact c
    · exact absurd (by rw [List.getElem_map, List.getElem_map, hi2, hj2]; exact e.symm) (hn j i (by rw [List.length_map]; exact hj1) (by rw [List.length_map]; exact hi1) c)
  · obtain ⟨i, hi⟩ := List.getElem?_of_mem (h.mem_iff.mpr (List.mem_of_getElem? hk))
    exact hD.2 i q hi
theorem nd_of : ∀ {l : List Nat}, l.Nodup → va_nd l = true
  | [], _ => rfl
  | a :: l, h => by
    obtain ⟨h1, h2⟩ := List.nodup_cons.mp h
    show (decide (a ∉ l) && va_nd l) = true
    rw [nd_of h2, decide_eq_true h1]
    rfl
theorem map_rng {α : Type} (a b : List α) : (List.range a.length).map (fun i => (a ++ b)[i]?) = a.map some := by
  refine List.ext_getElem (by simp) (fun i h1 h2 => ?_)
  rw [List.length_map] at h2
  rw [List.getElem_map, List.getElem_range, List.getElem_map, List.getElem?_append_left h2, List.getElem?_eq_getElem h2]
theorem map_rng2 {α : Type} (a b : List α) : (List.range' a.length b.length).map (fun i => (a ++ b)[i]?) = b.map some := by
  refine List.ext_getElem (by simp) (fun i h1 h2 => ?_)
  rw [List.length_map] at h2
  rw [List.getElem_map, List.getElem_range', List.getElem_map, List.getElem?_append_right (by omega), Nat.one_mul, Nat.add_sub_cancel_left, List.getElem?_eq_getElem h2]
theorem Cut_app (wc wr wc' : va_W) : Cut (wc ++ wr) wc wc' (wr ++ wc') (List.range wc.length) (List.range' wc.length wr.length) (List.range (wr ++ wc').length) := by
  refine ⟨wr, map_rng wc wr, nd_of List.nodup_range, map_rng2 wc wr, nd_of List.nodup_range', fun i h1 h2 => ?_, ?_, nd_of List.nodup_range⟩
  · have h1 := List.mem_range'_1.mp h1
    have h2 := List.mem_range.mp h2
    omega
  · have := map_rng (wr ++ wc') []
    rw [List.append_nil] at this
    exact this
theorem bk {x y z : va_W} (h : List.Perm z (x ++ y)) : List.Perm (y ++ x) z := List.perm_append_comm.trans h.symm
theorem pm (x y z w : va_W) : List.Perm (x ++ y ++ z ++ w) (x ++ z ++ (y ++ w)) := by
  rw [List.append_assoc x y z, List.append_assoc x (y ++ z) w, List.append_assoc x z (y ++ w), ← List.append_assoc z y w]
  exact List.Perm.append_left x (List.perm_append_comm.append_right w)
section Pt
variable (a b c d e f g : va_W)
theorem pt_52 : List.Perm (a ++ b ++ c ++ d ++ e ++ f ++ g) (a ++ b ++ (c ++ d ++ e ++ f ++ g)) := by
  simp only [List.append_assoc]
  exact List.Perm.refl _
theorem pt_53 : List.Perm (a ++ b ++ c ++ d ++ e ++ f ++ g) (a ++ c ++ (b ++ d ++ e ++ f ++ g)) := by
  have := pm a b c (d ++ e ++ f ++ g)
  simp only [List.append_assoc] at this ⊢
  exact this
theorem pt_51 : List.Perm (a ++ b ++ c ++ d ++ e ++ f ++ g) (a ++ d ++ (b ++ c ++ e ++ f ++ g)) := by
  have := pm a (b ++ c) d (e ++ f ++ g)
  simp only [List.append_assoc] at this ⊢
  exact this
theorem pt_524 : List.Perm (a ++ b ++ c ++ d ++ e ++ f ++ g) (a ++ b ++ e ++ (c ++ d ++ f ++ g)) := by
  have := pm (a ++ b) (c ++ d) e (f ++ g)
  simp only [List.append_assoc] at this ⊢
  exact this
theorem pt_51234 : List.Perm (a ++ b ++ c ++ d ++ e ++ f ++ g) (a ++ d ++ b ++ c ++ e ++ (f ++ g)) := by
  have := pm a (b ++ c) d (e ++ f ++ g)
  simp only [List.append_assoc] at this ⊢
  exact this
theorem pt_6 : List.Perm (a ++ b ++ c ++ d ++ e ++ f ++ g) (f ++ (a ++ b ++ c ++ d ++ e ++ g)) := by
  have := pm [] (a ++ b ++ c ++ d ++ e) f g
  simp only [List.nil_append] at this
  exact this
theorem pt_527 : List.Perm (a ++ b ++ c ++ d ++ e ++ f ++ g) (a ++ b ++ g ++ (c ++ d ++ e ++ f)) := by
  have := pm (a ++ b) (c ++ d ++ e ++ f) g []
  simp only [List.append_assoc, List.append_nil] at this ⊢
  exact this
theorem pt_517 : List.Perm (a ++ b ++ c ++ d ++ e ++ f ++ g) (a ++ d ++ g ++ (b ++ c ++ e ++ f)) := by
  have h1 := pt_51 a b c d e f g
  have h2 := pm (a ++ d) (b ++ c ++ e ++ f) g []
  simp only [List.append_assoc, List.append_nil] at h1 h2 ⊢
  exact h1.trans h2
end Pt
