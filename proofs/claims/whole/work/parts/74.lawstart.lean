/-! the law's start -/
theorem arr_of {s : State} {args : Array Value} {ty : FieldType} (h : (Cond.arrayClass ty).before args s = true) : ∃ cA, ArrOfT s cA ty ∧ s.vm.findClass ("[" ++ ty.toString) = some cA := by
  obtain ⟨c, k, comp, h1, h2, h3⟩ := Cond.arrayClass_spec h
  exact ⟨c, fun n z => ⟨fun k h => (by cases h), k, h2, comp, h3⟩, h1⟩
set_option maxHeartbeats 4000000 in
set_option maxRecDepth 100000 in
theorem law_words {p : Program} {s : State} {m : MethodId} {meth : Method} {c : Code} {b L : Nat} {xs : Nat → Int32} (hL : L ≤ 2560) (C0 : lw_At p s m meth c b L xs) : ∃ (D : va_G) (cI cJ : ClassId), LC p s m meth c b L xs D cI cJ ∧ NW5 s := by
  obtain ⟨hx, hb, hr, hml, hown, hts, hX, hbl, hlocks, hgv⟩ := id C0
  obtain ⟨c1, iS1, hKn1⟩ := u_known (C := RX1) (T := TX1) (N := 8) (n := 8) hts inX1 (hts (.instantiable RX1 8) (by decide +kernel))
  obtain ⟨c2, iS2, hKn2⟩ := u_known (C := RX2) (T := TX2) (N := 10) (n := 10) hts inX2 (hts (.instantiable RX2 10) (by decide +kernel))
  obtain ⟨c3, iS3, hKn3⟩ := u_known (C := RX3) (T := TX3) (N := 5) (n := 5) hts inX3 (hts (.instantiable RX3 5) (by decide +kernel))
  obtain ⟨c4, iS4, hKn4⟩ := u_known (C := RX4) (T := TX4) (N := 4) (n := 4) hts inX4 (hts (.instantiable RX4 4) (by decide +kernel))
  obtain ⟨c5, iS5, hKn5⟩ := u_known (C := RX5) (T := TX5) (N := 4) (n := 4) hts inX5 (hts (.instantiable RX5 4) (by decide +kernel))
  obtain ⟨c6, iS6, hKn6⟩ := u_known (C := RX6) (T := TX6) (N := 25) (n := 25) hts inX6 (hts (.instantiable RX6 25) (by decide +kernel))
  obtain ⟨cI, aI1, aI2⟩ := arr_of (hts (.arrayClass .int) (by decide +kernel))
  obtain ⟨cJ, aJ1, aJ2⟩ := arr_of (hts (.arrayClass .long) (by decide +kernel))
  obtain ⟨D, hKc⟩ : ∃ D : va_G, ∀ (k : Nat) (q : vw_C), vwK[k]? = some q → u_Kn s q.1 q.2.1 q.2.2 (D.1 k) (D.2 k) := by
    refine ⟨(fun k => match k with | 0 => c1 | 1 => c2 | 2 => c3 | 3 => c4 | 4 => c5 | _ => c6, fun k => match k with | 0 => iS1 | 1 => iS2 | 2 => iS3 | 3 => iS4 | 4 => iS5 | _ => iS6), ?_⟩
    intro k q hq
    match k, hq with
    | 0, hq => cases hq; exact hKn1
    | 1, hq => cases hq; exact hKn2
    | 2, hq => cases hq; exact hKn3
    | 3, hq => cases hq; exact hKn4
    | 4, hq => cases hq; exact hKn5
    | 5, hq => cases hq; exact hKn6
    | k + 6, hq => simp [vwK] at hq
  have hK : va_K D vwK (tyA cI cJ) s := by
    refine ⟨hKc, fun k q hq => ?_⟩
    match k, hq with
    | 0, hq => cases hq; exact ⟨aI1, aI2⟩
    | 1, hq => cases hq; exact ⟨aJ1, aJ2⟩
    | k + 2, hq => simp [tyA] at hq
  have hNW : NW s := ⟨va_Nw.of rfl (hts (.methodLinkNest RX1 37 yX5_setAll hostN) (by decide +kernel)), va_Nw.of rfl (hts (.methodLinkNest RX2 79 yX5_setAll hostN) (by decide +kernel)), va_Nw.of rfl (hts (.methodLinkNest RX3 40 yX5_setAll hostN) (by decide +kernel)), va_Nw.of rfl (hts (.methodLinkNest RX4 31 yX5_setAll hostN) (by decide +kernel))⟩
  have hN5 : NW5 s := ⟨va_Nw.of rfl (hts (.methodLinkNest RX5 9 yX2_init hostN) (by decide +kernel)), va_Nw.of rfl (hts (.methodLinkNest RX5 18 yX3_init hostN) (by decide +kernel)), va_Nw.of rfl (hts (.methodLinkNest RX5 32 yX4_init hostN) (by decide +kernel))⟩
  have hXW : XW s := ⟨va_Nw.of rfl (hts (.declares (Bundle.initS "java/lang/RuntimeException")) (by decide +kernel)), va_Nw.of rfl (hts (.declares (Bundle.initS "java/lang/Exception")) (by decide +kernel)), va_Nw.of rfl (hts (.declares (Bundle.initS Bundle.tN)) (by decide +kernel)), va_Nw.of rfl (hts (.castable aeN aeN) (by decide +kernel))⟩
  have hfl := flat_of_before _ hgv
  have hA : ∀ a : Nat, a < s.heap.size → ¬ (fun q : Nat => s.heap.size ≤ q) a := fun a h => Nat.not_le.mpr h
  have hz1 : vx_Zq Bundle.tN "UNASSIGNED_STACK" Bundle.steD (fun q : Nat => s.heap.size ≤ q) s s.heap := vx_Zqof (hts (.laysStatic Bundle.tN "UNASSIGNED_STACK" Bundle.steD) (by decide +kernel)) (hts (.initialized Bundle.tN) (by decide +kernel)) (hfl (.isRef (.static Bundle.tN "UNASSIGNED_STACK" Bundle.steD)) (by decide +kernel)) hA
  have hz2 : vx_Zq Bundle.tN "SUPPRESSED_SENTINEL" Bundle.listD (fun q : Nat => s.heap.size ≤ q) s s.heap := vx_Zqof (hts (.laysStatic Bundle.tN "SUPPRESSED_SENTINEL" Bundle.listD) (by decide +kernel)) (hts (.initialized Bundle.tN) (by decide +kernel)) (hfl (.isRef (.static Bundle.tN "SUPPRESSED_SENTINEL" Bundle.listD)) (by decide +kernel)) hA
  obtain ⟨cc5, kc5, hfc5, -⟩ := Cond.instantiable_spec (hts (.instantiable RX5 4) (by decide +kernel))
  have hs1 : (Cond.stringRef RX5 96 "the label has no shares").before #[Value.ref b] s = true := hts _ (by decide +kernel)
  have hs2 : (Cond.stringRef RX5 177 "all paths of the sign row weigh nothing").before #[Value.ref b] s = true := hts _ (by decide +kernel)
  obtain ⟨_, _, _, sa, -, -, -, -, -, ev1⟩ := Cond.stringRef_spec hfc5 hs1
  obtain ⟨_, _, _, sb, -, -, -, -, -, ev2⟩ := Cond.stringRef_spec hfc5 hs2
  exact ⟨D, cI, cJ, ⟨C0, ⟨hK, hNW⟩, ⟨sa, vk_R.of hs1 ev1, hz1, hz2, hXW⟩, ⟨sb, vk_R.of hs2 ev2, hz1, hz2, hXW⟩, hL⟩, hN5⟩
set_option maxHeartbeats 4000000 in
set_option maxRecDepth 100000 in
theorem law_start {p : Program} {e : Env} {s : State} {m : MethodId} {below : List Frame} {meth : Method} {c : Code} (l : Launch) (htr : l.stackTraces = false) {b L : Nat} {xs : Nat → Int32} (hL : L ≤ 2560) (C0 : lw_At p s m meth c b L xs) : W p l e room_1 s m #[Value.ref b] below meth c s.heap [] 0 0 (lw_Z below #[Value.ref b] s) (entryFrame m ([Value.ref b] : List Value).toArray 8) := by
  obtain ⟨D, cI, cJ, hLC, hN5⟩ := law_words hL C0
  obtain ⟨hx, hb, hr, hml, hown, hts0, hX, hbl, hlocks, hgv⟩ := id C0
  have hts : ∀ w ∈ wsL_law, w.before #[Value.ref b] s = true := fun w h => hts0 w (wsL_law_in w h)
  have hK : KN D cI cJ s := hLC.2.1
  have hA : ∀ q : Nat, s.heap.size ≤ q → (fun q : Nat => s.heap.size ≤ q) q := fun _ h => h
  obtain ⟨ww, ew1, ew2⟩ := init1
  obtain ⟨sta, mov, sho, ei1, ei2, ei3, ei4⟩ := init6
  have hS : va_S (fun q : Nat => s.heap.size ≤ q) s.heap s.heap [] := va_S.rf
  have hP : va_P D vwK [] s.heap := fun k q h => by simp at h
  have hD : va_D (fun q : Nat => s.heap.size ≤ q) [] := ⟨fun i j p q h => by simp at h, fun k q h => by simp at h⟩
  have hl := lv_entry ([.ref b]) (n := 8) (Nat.le_of_ble_eq_true rfl)
  rw [lg_entry_eq]
  generalize (lg_sl ([.ref b]) ++ List.replicate (8 - (lg_sl ([.ref b])).length) Slot.unset).toArray = ls at hl ⊢
  have hl : lv_has ls 8 [(0, .ref b)] := hl
  refine va_new (ci := 4) (fs := [.null, .null, .null, .null]) (C := RX5) (T := TX5) (N := 4) hx hb hts0 inX5 tyX5 tyX5_ok hown (hts0 (.classLink R_law 8 RX5) (by decide +kernel)) (hts0 (.instantiable RX5 4) (by decide +kernel)) (hts0 (.initialized RX5) (by decide +kernel)) hK.1 hP hD hS hA rfl (fun j hj => by rcases (show j = 0 ∨ j = 1 ∨ j = 2 ∨ j = 3 by omega) with rfl | rfl | rfl | rfl <;> rfl) (Nat.le_of_ble_eq_true rfl) (Nat.le_of_ble_eq_true rfl) dL_law_0 (fun h5 H hP hD hS => ?_)
  have hP : va_P D vwK [(h5, .inr (4, [.null, .null, .null, .null]))] H := hP
  have hD : va_D (fun q : Nat => s.heap.size ≤ q) [(h5, .inr (4, [.null, .null, .null, .null]))] := hD
  refine W.widen (k := 1) (n := 4) (Nat.le_of_ble_eq_true rfl) (Nat.le_of_ble_eq_true rfl) ?_
  refine lv_dup hx hb dL_law_3 rfl ?_
  refine callInit (wr := []) (rest := [.ref h5]) (c_X5_init l D cI cJ h5 ww ew1) (fun hM hp => va_runI (As := []) (rest := [.ref h5]) ⟨hx, hb, hml, hown, hts⟩ hM (cwI 0 hts gL_law_X5_init rfl rfl rfl (hts0 (.initialized RX5) (by decide +kernel)) (hts0 (.methodLink R_law 19 yX5_init) (by decide +kernel)) (hts0 (.instanceMethod yX5_init) (by decide +kernel)) rfl (by decide +kernel) ⟨Nat.le_of_ble_eq_true rfl, Nat.le_of_ble_eq_true rfl⟩) hp rfl rfl hl.1 rfl (lv_room (Nat.le_of_ble_eq_true rfl)) dL_law_4 ⟨Nat.le_of_ble_eq_true rfl, Nat.le_of_ble_eq_true rfl⟩) NW5_mv hN5 hK hP hD hS hA [0] [] rfl rfl rfl rfl (by decide) (fun H locs hE hj hS => ?_)
  obtain ⟨h2, labels2a, guesses2a, lengths2a, words2a, times2a, totals2a, sizes2a, h3, text3a, behind3a, uppers3a, h1, weights1a, freshWeights1a, signs1a, lengths1a, sums1a, nextSums1a, bestFrom1a, bestPath1a, h4, support4a, having4a, keys4a, hP1, hD1⟩ := hE
  obtain ⟨hP, hD⟩ := hj _ hP1 hD1
  have hP : va_P D vwK (w5 h5 h2 h3 h1 h4 ++ w2 cI cJ h2 labels2a guesses2a lengths2a words2a times2a totals2a sizes2a zI zI zI zI zI zI zI 0 1 1 ++ w3 cI cJ h3 text3a behind3a uppers3a zI zI zL 1 0 ++ w1 cI cJ h1 weights1a freshWeights1a signs1a lengths1a sums1a nextSums1a bestFrom1a bestPath1a ww zI zI zI zL zL zL zI ++ w4 cI cJ h4 support4a having4a keys4a zI zI zI 0) H := hP
  have hD : va_D (fun q : Nat => s.heap.size ≤ q) (w5 h5 h2 h3 h1 h4 ++ w2 cI cJ h2 labels2a guesses2a lengths2a words2a times2a totals2a sizes2a zI zI zI zI zI zI zI 0 1 1 ++ w3 cI cJ h3 text3a behind3a uppers3a zI zI zL 1 0 ++ w1 cI cJ h1 weights1a freshWeights1a signs1a lengths1a sums1a nextSums1a bestFrom1a bestPath1a ww zI zI zI zL zL zL zI ++ w4 cI cJ h4 support4a having4a keys4a zI zI zI 0) := hD
  refine W.widen (k := 26) (n := 764) (Nat.le_of_ble_eq_true rfl) (Nat.le_of_ble_eq_true rfl) ?_
  refine lv_astore_n (lv' := [(1, .ref h5), (0, .ref b)]) hx hb dL_law_7 rfl hl (by decide) rfl (fun ls hl => ?_)
  refine va_new (ci := 5) (fs := [.int 0, .int 0, .null, .null, .null, .null, .null, .int 0, .int 0, .long 0, .long 0, .null, .int 0, .null, .null, .long 0, .null, .null, .null, .null, .null, .null, .null, .null, .null]) (C := RX6) (T := TX6) (N := 25) hx hb hts0 inX6 tyX6 tyX6_ok hown (hts0 (.classLink R_law 20 RX6) (by decide +kernel)) (hts0 (.instantiable RX6 25) (by decide +kernel)) (hts0 (.initialized RX6) (by decide +kernel)) hK.1 hP hD hS hA rfl (fun j hj => by rcases (show j = 0 ∨ j = 1 ∨ j = 2 ∨ j = 3 ∨ j = 4 ∨ j = 5 ∨ j = 6 ∨ j = 7 ∨ j = 8 ∨ j = 9 ∨ j = 10 ∨ j = 11 ∨ j = 12 ∨ j = 13 ∨ j = 14 ∨ j = 15 ∨ j = 16 ∨ j = 17 ∨ j = 18 ∨ j = 19 ∨ j = 20 ∨ j = 21 ∨ j = 22 ∨ j = 23 ∨ j = 24 by omega) with rfl | rfl | rfl | rfl | rfl | rfl | rfl | rfl | rfl | rfl | rfl | rfl | rfl | rfl | rfl | rfl | rfl | rfl | rfl | rfl | rfl | rfl | rfl | rfl | rfl <;> rfl) (Nat.le_of_ble_eq_true rfl) (Nat.le_of_ble_eq_true rfl) dL_law_8 (fun h6 H hP hD hS => ?_)
  refine W.widen (k := 27) (n := 789) (Nat.le_of_ble_eq_true rfl) (Nat.le_of_ble_eq_true rfl) ?_
  refine lv_dup hx hb dL_law_11 rfl ?_
  refine callInit (wr := (w5 h5 h2 h3 h1 h4 ++ w2 cI cJ h2 labels2a guesses2a lengths2a words2a times2a totals2a sizes2a zI zI zI zI zI zI zI 0 1 1 ++ w3 cI cJ h3 text3a behind3a uppers3a zI zI zL 1 0 ++ w1 cI cJ h1 weights1a freshWeights1a signs1a lengths1a sums1a nextSums1a bestFrom1a bestPath1a ww zI zI zI zL zL zL zI ++ w4 cI cJ h4 support4a having4a keys4a zI zI zI 0)) (rest := [.ref h6]) (c_X6_init l D cI cJ h6 sta mov sho ei1) (fun hM hp => va_runI (As := []) (rest := [.ref h6]) ⟨hx, hb, hml, hown, hts⟩ hM (cwI 0 hts gL_law_X6_init rfl rfl rfl (hts0 (.initialized RX6) (by decide +kernel)) (hts0 (.methodLink R_law 22 yX6_init) (by decide +kernel)) (hts0 (.instanceMethod yX6_init) (by decide +kernel)) rfl (by decide +kernel) ⟨Nat.le_of_ble_eq_true rfl, Nat.le_of_ble_eq_true rfl⟩) hp rfl rfl hl.1 rfl (lv_room (Nat.le_of_ble_eq_true rfl)) dL_law_12 ⟨Nat.le_of_ble_eq_true rfl, Nat.le_of_ble_eq_true rfl⟩) ZT_mv trivial hK hP hD hS hA [26] [0, 1, 2, 3, 4, 5, 6, 7, 8, 9, 10, 11, 12, 13, 14, 15, 16, 17, 18, 19, 20, 21, 22, 23, 24, 25] rfl rfl rfl rfl (by decide) (fun H locs hE hj hS => ?_)
  obtain ⟨labels6a, guesses6a, comes6a, sizes6a, words6a, told6a, behind6a, shares6a, start6a, move6a, show6a, signs6a, many6a, bestPath6a, nextStart6a, nextMove6a, nextShow6a, hP1, hD1⟩ := hE
  obtain ⟨hP, hD⟩ := hj _ hP1 hD1
  refine W.widen (k := 44) (n := 1365) (Nat.le_of_ble_eq_true rfl) (Nat.le_of_ble_eq_true rfl) ?_
  refine lv_astore_n (lv' := [(2, .ref h6), (1, .ref h5), (0, .ref b)]) hx hb dL_law_15 rfl hl (by decide) rfl (fun ls hl => ?_)
  refine lv_iconst (v := 1) hx hb dL_law_16 (by decide) ?_
  refine newL hx hb (hts0 (.arrayClass .long) (by decide +kernel)) hK hP hD hS hA (N := 1) (by decide) (by decide) (by decide) (Nat.le_of_ble_eq_true rfl) (Nat.le_of_ble_eq_true rfl) dL_law_17 (fun oa H hP hD hS => ?_)
  refine W.widen (k := 45) (n := 1366) (Nat.le_of_ble_eq_true rfl) (Nat.le_of_ble_eq_true rfl) ?_
  have hP : va_P D vwK (LWO cI cJ h5 h6 oa h2 labels2a guesses2a lengths2a words2a times2a totals2a sizes2a h3 text3a behind3a uppers3a h1 weights1a freshWeights1a signs1a lengths1a sums1a nextSums1a bestFrom1a bestPath1a h4 support4a having4a keys4a labels6a guesses6a comes6a sizes6a words6a told6a behind6a shares6a start6a move6a show6a signs6a many6a bestPath6a nextStart6a nextMove6a nextShow6a zI zI zI zI zI zI zI 0 1 1 zI zI zL 1 0 ww zI zI zI zL zL zL zI zI zI zI 0 0 0 zI zI zI zI zI 1 1 0 0 zI 0 zI zL 0 sta mov sho zI zI zI zI zI zI zL) H := hP
  have hD : va_D (fun q : Nat => s.heap.size ≤ q) (LWO cI cJ h5 h6 oa h2 labels2a guesses2a lengths2a words2a times2a totals2a sizes2a h3 text3a behind3a uppers3a h1 weights1a freshWeights1a signs1a lengths1a sums1a nextSums1a bestFrom1a bestPath1a h4 support4a having4a keys4a labels6a guesses6a comes6a sizes6a words6a told6a behind6a shares6a start6a move6a show6a signs6a many6a bestPath6a nextStart6a nextMove6a nextShow6a zI zI zI zI zI zI zI 0 1 1 zI zI zL 1 0 ww zI zI zI zL zL zL zI zI zI zI 0 0 0 zI zI zI zI zI 1 1 0 0 zI 0 zI zL 0 sta mov sho zI zI zI zI zI zI zL) := hD
  refine lv_astore_n (lv' := [(3, .ref oa), (2, .ref h6), (1, .ref h5), (0, .ref b)]) hx hb dL_law_19 rfl hl (by decide) rfl (fun ls hl => ?_)
  refine lv_iconst (v := 0) hx hb dL_law_20 (by decide) ?_
  refine lv_istore (lv' := [(4, .int 0), (3, .ref oa), (2, .ref h6), (1, .ref h5), (0, .ref b)]) hx hb dL_law_21 hl (by decide) rfl (fun ls hl => ?_)
  have hI : LInv D cI cJ (fun q : Nat => s.heap.size ≤ q) h5 h6 oa H := ⟨h2, labels2a, guesses2a, lengths2a, words2a, times2a, totals2a, sizes2a, h3, text3a, behind3a, uppers3a, h1, weights1a, freshWeights1a, signs1a, lengths1a, sums1a, nextSums1a, bestFrom1a, bestPath1a, h4, support4a, having4a, keys4a, labels6a, guesses6a, comes6a, sizes6a, words6a, told6a, behind6a, shares6a, start6a, move6a, show6a, signs6a, many6a, bestPath6a, nextStart6a, nextMove6a, nextShow6a, zI, zI, zI, zI, zI, zI, zI, 0, 1, 1, zI, zI, zL, 1, 0, ww, zI, zI, zI, zL, zL, zL, zI, zI, zI, zI, 0, 0, 0, zI, zI, zI, zI, zI, 1, 1, 0, 0, zI, 0, zI, zL, 0, sta, mov, sho, zI, zI, zI, zI, zI, zI, zL, hP, hD, init_r, ⟨rfl, rfl, 0, ⟨by decide, fun k hk => absurd hk (Nat.not_lt_zero k)⟩, rfl⟩, init_s ew2 ei2 ei3 ei4⟩
  exact law_loop hLC htr (L + 1) 0 (Nat.zero_le L) (by omega) H _ ls hI hS (lv_sub hl [4, 3, 2, 1, 0] rfl)
