def f_X5_share (i1 : Int32) (i2 : Int32) (i3 : Int32) (times2 : Nat → Int32) (totals2 : Nat → Int32) (addedUp2 : Int32) (addedDown2 : Int32) : Option (Option Int64) :=
  Option.bind (f_X5_isLabel i1) fun r_1 =>
  if r_1 = 0 then
    some (some (-2))
  else
    Option.bind (f_X5_isWord i2) fun r_4 =>
    if r_4 = 0 then
      some (some (-2))
    else
      Option.bind (f_X5_isSide i3) fun r_7 =>
      if r_7 = 0 then
        some (some (-2))
      else
        Option.bind (f_X2_shareLower i1 totals2 addedUp2 addedDown2) fun rj_10 =>
        nm (α := Int64) (rj_10) fun j4_12 =>
        if (lg_cmp j4_12 0) = 0 then
          some none
        else
          Option.bind (f_X2_shareUpper i1 i2 times2 addedUp2 addedDown2) fun rj_14 =>
          Option.bind (f_X0_sideOf rj_14 j4_12 i3) fun rj_16 =>
          some (some rj_16)
set_option maxHeartbeats 4000000 in
set_option maxRecDepth 100000 in
theorem c_X5_share (l : Launch) (D : va_G) (cI cJ : ClassId) (h5 h2 h3 h1 h4 labels2a guesses2a lengths2a words2a times2a totals2a sizes2a : Nat) (labels2 : Nat → Int32) (guesses2 : Nat → Int32) (lengths2 : Nat → Int32) (words2 : Nat → Int32) (times2 : Nat → Int32) (totals2 : Nat → Int32) (sizes2 : Nat → Int32) (rowCount2 : Int32) (addedUp2 : Int32) (addedDown2 : Int32) (i1 : Int32) (i2 : Int32) (i3 : Int32) (o9 : Option Int64) (htr : l.stackTraces = false) (sa : Nat) (h : f_X5_share i1 i2 i3 times2 totals2 addedUp2 addedDown2 = some o9) : CX l D cI cJ yX5_share wsX5_share 6 82 [.ref h5, .int i1, .int i2, .int i3] (w5 h5 h2 h3 h1 h4 ++ w2 cI cJ h2 labels2a guesses2a lengths2a words2a times2a totals2a sizes2a labels2 guesses2 lengths2 words2 times2 totals2 sizes2 rowCount2 addedUp2 addedDown2) (w5 h5 h2 h3 h1 h4 ++ w2 cI cJ h2 labels2a guesses2a lengths2a words2a times2a totals2a sizes2a labels2 guesses2 lengths2 words2 times2 totals2 sizes2 rowCount2 addedUp2 addedDown2) 96 "the label has no shares" sa o9 := by
  refine entX 42 htr (cc := cX5_share) (maxL := 6) (by decide) rfl (Nat.le_of_ble_eq_true rfl) rfl dX5_share_42 dX5_share_45 dX5_share_46 dX5_share_48 dX5_share_51 (by decide +kernel) (by decide +kernel) (by decide +kernel) (by decide) (by decide) ?_
  intro p e s m args below meth c ls A Q X hret hthr
  obtain ⟨hx, hb, hml, hts, hown, hK, hA, hP, hD, hS, hl, hnm⟩ := X
  have hown : s.vm.findClass RX5 = some m.cls := hown
  have hl : lv_has ls 6 [(0, .ref h5), (1, .int i1), (2, .int i2), (3, .int i3)] := hl
  have hw1 : (Cond.constantLong RX5 88 (-2)).before args s = true := hts _ (by decide +kernel)
  have hw2 : (Cond.fieldLink RX5 10 "CountLearners" "rows" "LCountLearners$LabelledRows;").before args s = true := hts _ (by decide +kernel)
  have hinX5 : ∀ w ∈ wsX50, w ∈ wsX5_share := by decide +kernel
  unfold f_X5_share at h
  refine lv_iload_n hx hb dX5_share_0 rfl (lv_at hl 1 rfl) ?_
  obtain ⟨r_1, hc_2, h⟩ := bd_s h
  refine callPi (As := [.int i1]) (rest := []) ⟨hx, hb, hml, hown, hts⟩ (c_X5_isLabel l D cI cJ i1 r_1 hc_2) (va_cwS 1 hts gX5_share_X5_isLabel rfl rfl rfl (by decide +kernel) ⟨Nat.le_of_ble_eq_true rfl, Nat.le_of_ble_eq_true rfl⟩) hK hP hD hS hA rfl hl.1 rfl (Nat.le_of_ble_eq_true rfl) dX5_share_1 ⟨Nat.le_of_ble_eq_true rfl, Nat.le_of_ble_eq_true rfl⟩ (fun H locs hP hD hS => ?_)
  refine lv_if_eq (tgt := 21) hx hb dX5_share_4 (by decide) (fun c_3 => ?_) (fun c_3 => ?_)
  · have h := it_p c_3 h
    refine lv_ldc2 (v := (-2)) hx hb hown hw1 dX5_share_21 ?_
    cases h
    exact hret _ _ _ _ _ rfl hP hD hS dX5_share_24
  · have h := it_n c_3 h
    refine lv_iload_n hx hb dX5_share_7 rfl (lv_at hl 2 rfl) ?_
    obtain ⟨r_4, hc_5, h⟩ := bd_s h
    refine callPi (As := [.int i2]) (rest := []) ⟨hx, hb, hml, hown, hts⟩ (c_X5_isWord l D cI cJ i2 r_4 hc_5) (va_cwS 1 hts gX5_share_X5_isWord rfl rfl rfl (by decide +kernel) ⟨Nat.le_of_ble_eq_true rfl, Nat.le_of_ble_eq_true rfl⟩) hK hP hD hS hA rfl hl.1 rfl (Nat.le_of_ble_eq_true rfl) dX5_share_8 ⟨Nat.le_of_ble_eq_true rfl, Nat.le_of_ble_eq_true rfl⟩ (fun H locs hP hD hS => ?_)
    refine lv_if_eq (tgt := 21) hx hb dX5_share_11 (by decide) (fun c_6 => ?_) (fun c_6 => ?_)
    · have h := it_p c_6 h
      refine lv_ldc2 (v := (-2)) hx hb hown hw1 dX5_share_21 ?_
      cases h
      exact hret _ _ _ _ _ rfl hP hD hS dX5_share_24
    · have h := it_n c_6 h
      refine lv_iload_n hx hb dX5_share_14 rfl (lv_at hl 3 rfl) ?_
      obtain ⟨r_7, hc_8, h⟩ := bd_s h
      refine callPi (As := [.int i3]) (rest := []) ⟨hx, hb, hml, hown, hts⟩ (c_X5_isSide l D cI cJ i3 r_7 hc_8) (va_cwS 1 hts gX5_share_X5_isSide rfl rfl rfl (by decide +kernel) ⟨Nat.le_of_ble_eq_true rfl, Nat.le_of_ble_eq_true rfl⟩) hK hP hD hS hA rfl hl.1 rfl (Nat.le_of_ble_eq_true rfl) dX5_share_15 ⟨Nat.le_of_ble_eq_true rfl, Nat.le_of_ble_eq_true rfl⟩ (fun H locs hP hD hS => ?_)
      refine lv_if_ne (tgt := 25) hx hb dX5_share_18 (by decide) (fun c_9 => ?_) (fun c_9 => ?_)
      · have h := it_n c_9 h
        refine lv_aload_n hx hb dX5_share_25 rfl (lv_at hl 0 rfl) ?_
        refine va_get (D := D) (ci := 4) (v := .ref h2) (C := RX5) (T := TX5) (N := 4) hx hb hts hinX5 hown hK.1 hP 0 rfl rfl 0 (by decide) hw2 (fun _ h9 => h9) rfl dX5_share_26 ?_
        refine lv_iload_n hx hb dX5_share_29 rfl (lv_at hl 1 rfl) ?_
        obtain ⟨rj_10, hc_11, h⟩ := bd_s h
        refine callVl (As := [.int i1]) (rest := []) (ws2 := (w5 h5 h2 h3 h1 h4 ++ w2 cI cJ h2 labels2a guesses2a lengths2a words2a times2a totals2a sizes2a labels2 guesses2 lengths2 words2 times2 totals2 sizes2 rowCount2 addedUp2 addedDown2)) ⟨hx, hb, hml, hown, hts⟩ (c_X2_shareLower l D cI cJ h2 labels2a guesses2a lengths2a words2a times2a totals2a sizes2a labels2 guesses2 lengths2 words2 times2 totals2 sizes2 rowCount2 addedUp2 addedDown2 i1 rj_10 hc_11) (cwV 1 hts gX5_share_X2_shareLower rfl rfl rfl (by decide +kernel) ⟨Nat.le_of_ble_eq_true rfl, Nat.le_of_ble_eq_true rfl⟩) hK hP hD hS hA [1, 2, 3, 4, 5, 6, 7, 8] [0] [0, 1, 2, 3, 4, 5, 6, 7, 8] ⟨[(h5, .inr (4, [.ref h2, .ref h3, .ref h1, .ref h4]))], rfl, rfl, rfl, rfl, by decide, rfl, rfl⟩ 0 1 rfl rfl rfl rfl hl.1 rfl (Nat.le_of_ble_eq_true rfl) dX5_share_30 ⟨Nat.le_of_ble_eq_true rfl, Nat.le_of_ble_eq_true rfl⟩ (fun H locs hP hD hS => ?_)
        refine lv_topl (fun j4_12 ej4_12 => ?_)
        have h := nm_s h j4_12 ej4_12
        refine lv_lstore (lv' := [(4, .long j4_12), (0, .ref h5), (1, .int i1), (2, .int i2), (3, .int i3)]) hx hb dX5_share_33 hl (by decide) rfl (fun ls hl => ?_)
        refine lv_lload hx hb dX5_share_35 (lv_at hl 0 rfl) ?_
        refine lv_lconst (v := 0) hx hb dX5_share_37 (by decide) ?_
        refine W.lcmp hx hb dX5_share_38 ?_
        refine lv_if_ne (tgt := 52) hx hb dX5_share_39 (by decide) (fun c_13 => ?_) (fun c_13 => ?_)
        · have h := it_n c_13 h
          refine lv_aload_n hx hb dX5_share_52 rfl (lv_at hl 1 rfl) ?_
          refine va_get (D := D) (ci := 4) (v := .ref h2) (C := RX5) (T := TX5) (N := 4) hx hb hts hinX5 hown hK.1 hP 0 rfl rfl 0 (by decide) hw2 (fun _ h9 => h9) rfl dX5_share_53 ?_
          refine lv_iload_n hx hb dX5_share_56 rfl (lv_at hl 2 rfl) ?_
          refine lv_iload_n hx hb dX5_share_57 rfl (lv_at hl 3 rfl) ?_
          obtain ⟨rj_14, hc_15, h⟩ := bd_s h
          refine callVl (As := [.int i1, .int i2]) (rest := []) (ws2 := (w5 h5 h2 h3 h1 h4 ++ w2 cI cJ h2 labels2a guesses2a lengths2a words2a times2a totals2a sizes2a labels2 guesses2 lengths2 words2 times2 totals2 sizes2 rowCount2 addedUp2 addedDown2)) ⟨hx, hb, hml, hown, hts⟩ (c_X2_shareUpper l D cI cJ h2 labels2a guesses2a lengths2a words2a times2a totals2a sizes2a labels2 guesses2 lengths2 words2 times2 totals2 sizes2 rowCount2 addedUp2 addedDown2 i1 i2 rj_14 hc_15) (cwV 2 hts gX5_share_X2_shareUpper rfl rfl rfl (by decide +kernel) ⟨Nat.le_of_ble_eq_true rfl, Nat.le_of_ble_eq_true rfl⟩) hK hP hD hS hA [1, 2, 3, 4, 5, 6, 7, 8] [0] [0, 1, 2, 3, 4, 5, 6, 7, 8] ⟨[(h5, .inr (4, [.ref h2, .ref h3, .ref h1, .ref h4]))], rfl, rfl, rfl, rfl, by decide, rfl, rfl⟩ 0 1 rfl rfl rfl rfl hl.1 rfl (Nat.le_of_ble_eq_true rfl) dX5_share_58 ⟨Nat.le_of_ble_eq_true rfl, Nat.le_of_ble_eq_true rfl⟩ (fun H locs hP hD hS => ?_)
          refine lv_lload hx hb dX5_share_61 (lv_at hl 0 rfl) ?_
          refine lv_iload_n hx hb dX5_share_63 rfl (lv_at hl 4 rfl) ?_
          obtain ⟨rj_16, hc_17, h⟩ := bd_s h
          refine callPl (As := [.long rj_14, .long j4_12, .int i3]) (rest := []) ⟨hx, hb, hml, hown, hts⟩ (c_X0_sideOf l D cI cJ rj_14 j4_12 i3 rj_16 hc_17) (va_cwS 3 hts gX5_share_X0_sideOf rfl rfl rfl (by decide +kernel) ⟨Nat.le_of_ble_eq_true rfl, Nat.le_of_ble_eq_true rfl⟩) hK hP hD hS hA rfl hl.1 rfl (Nat.le_of_ble_eq_true rfl) dX5_share_64 ⟨Nat.le_of_ble_eq_true rfl, Nat.le_of_ble_eq_true rfl⟩ (fun H locs hP hD hS => ?_)
          cases h
          exact hret _ _ _ _ _ rfl hP hD hS dX5_share_67
        · have h := it_p c_13 h
          cases h
          exact hthr _ _ _ rfl hP hD hS hl.1
      · have h := it_p c_9 h
        refine lv_ldc2 (v := (-2)) hx hb hown hw1 dX5_share_21 ?_
        cases h
        exact hret _ _ _ _ _ rfl hP hD hS dX5_share_24
def f_X5_at (i1 : Int32) (i2 : Int32) (i3 : Int32) (i4 : Int32) (weights1 : Nat → Int32) (signs1 : Nat → Int32) (lengths1 : Nat → Int32) (sums1 : Nat → Int64) (nextSums1 : Nat → Int64) : Option (Option Int64 × (Nat → Int64) × (Nat → Int64)) :=
  Option.bind (f_X1_isRow i1) fun r_1 =>
  if r_1 = 0 then
    some ((some (-2)), sums1, nextSums1)
  else
    Option.bind (f_X1_hasPlace i1 i2 lengths1) fun r_4 =>
    if r_4 = 0 then
      some ((some (-2)), sums1, nextSums1)
    else
      Option.bind (f_X1_isState i3) fun r_7 =>
      if r_7 = 0 then
        some ((some (-2)), sums1, nextSums1)
      else
        Option.bind (f_X5_isSide i4) fun r_10 =>
        if r_10 = 0 then
          some ((some (-2)), sums1, nextSums1)
        else
          Option.bind (f_X1_totalOf i1 weights1 signs1 lengths1 sums1 nextSums1) fun (rj_13, sums1_14, nextSums1_15) =>
          nm (α := Int64) (rj_13) fun j5_17 =>
          if (lg_cmp j5_17 0) = 0 then
            some (none, sums1_14, nextSums1_15)
          else
            Option.bind (f_X1_totalThrough i1 i2 i3 weights1 signs1 lengths1 sums1_14 nextSums1_15) fun (rj_19, sums1_20, nextSums1_21) =>
            Option.bind (f_X0_sideOf rj_19 j5_17 i4) fun rj_23 =>
            some ((some rj_23), sums1_20, nextSums1_21)
set_option maxHeartbeats 4000000 in
set_option maxRecDepth 100000 in
theorem c_X5_at (l : Launch) (D : va_G) (cI cJ : ClassId) (h5 h2 h3 h1 h4 weights1a freshWeights1a signs1a lengths1a sums1a nextSums1a bestFrom1a bestPath1a : Nat) (weights1 : Nat → Int32) (freshWeights1 : Nat → Int32) (signs1 : Nat → Int32) (lengths1 : Nat → Int32) (sums1 : Nat → Int64) (nextSums1 : Nat → Int64) (bestFrom1 : Nat → Int64) (bestPath1 : Nat → Int32) (i1 : Int32) (i2 : Int32) (i3 : Int32) (i4 : Int32) (o9 : Option Int64) (sums1z : Nat → Int64) (nextSums1z : Nat → Int64) (htr : l.stackTraces = false) (sa : Nat) (h : f_X5_at i1 i2 i3 i4 weights1 signs1 lengths1 sums1 nextSums1 = some (o9, sums1z, nextSums1z)) : CX l D cI cJ yX5_at wsX5_at 6 92 [.ref h5, .int i1, .int i2, .int i3, .int i4] (w5 h5 h2 h3 h1 h4 ++ w1 cI cJ h1 weights1a freshWeights1a signs1a lengths1a sums1a nextSums1a bestFrom1a bestPath1a weights1 freshWeights1 signs1 lengths1 sums1 nextSums1 bestFrom1 bestPath1) (w5 h5 h2 h3 h1 h4 ++ w1 cI cJ h1 weights1a freshWeights1a signs1a lengths1a sums1a nextSums1a bestFrom1a bestPath1a weights1 freshWeights1 signs1 lengths1 sums1z nextSums1z bestFrom1 bestPath1) 177 "all paths of the sign row weigh nothing" sa o9 := by
  refine entX 59 htr (cc := cX5_at) (maxL := 7) (by decide) rfl (Nat.le_of_ble_eq_true rfl) rfl dX5_at_59 dX5_at_62 dX5_at_63 dX5_at_65 dX5_at_68 (by decide +kernel) (by decide +kernel) (by decide +kernel) (by decide) (by decide) ?_
  intro p e s m args below meth c ls A Q X hret hthr
  obtain ⟨hx, hb, hml, hts, hown, hK, hA, hP, hD, hS, hl, hnm⟩ := X
  have hown : s.vm.findClass RX5 = some m.cls := hown
  have hl : lv_has ls 7 [(0, .ref h5), (1, .int i1), (2, .int i2), (3, .int i3), (4, .int i4)] := hl
  have hw1 : (Cond.constantLong RX5 88 (-2)).before args s = true := hts _ (by decide +kernel)
  have hw2 : (Cond.fieldLink RX5 26 "CountLearners" "states" "LCountLearners$HiddenStates;").before args s = true := hts _ (by decide +kernel)
  have hinX5 : ∀ w ∈ wsX50, w ∈ wsX5_at := by decide +kernel
  unfold f_X5_at at h
  refine lv_iload_n hx hb dX5_at_0 rfl (lv_at hl 1 rfl) ?_
  obtain ⟨r_1, hc_2, h⟩ := bd_s h
  refine callPi (As := [.int i1]) (rest := []) ⟨hx, hb, hml, hown, hts⟩ (c_X1_isRow l D cI cJ i1 r_1 hc_2) (va_cwS 1 hts gX5_at_X1_isRow rfl rfl rfl (by decide +kernel) ⟨Nat.le_of_ble_eq_true rfl, Nat.le_of_ble_eq_true rfl⟩) hK hP hD hS hA rfl hl.1 rfl (Nat.le_of_ble_eq_true rfl) dX5_at_1 ⟨Nat.le_of_ble_eq_true rfl, Nat.le_of_ble_eq_true rfl⟩ (fun H locs hP hD hS => ?_)
  refine lv_if_eq (tgt := 19) hx hb dX5_at_4 (by decide) (fun c_3 => ?_) (fun c_3 => ?_)
  · have h := it_p c_3 h
    refine lv_ldc2 (v := (-2)) hx hb hown hw1 dX5_at_19 ?_
    cases h
    exact hret _ _ _ _ _ rfl hP hD hS dX5_at_22
  · have h := it_n c_3 h
    refine lv_aload_n hx hb dX5_at_7 rfl (lv_at hl 0 rfl) ?_
    refine va_get (D := D) (ci := 4) (v := .ref h1) (C := RX5) (T := TX5) (N := 4) hx hb hts hinX5 hown hK.1 hP 0 rfl rfl 2 (by decide) hw2 (fun _ h9 => h9) rfl dX5_at_8 ?_
    refine lv_iload_n hx hb dX5_at_11 rfl (lv_at hl 1 rfl) ?_
    refine lv_iload_n hx hb dX5_at_12 rfl (lv_at hl 2 rfl) ?_
    obtain ⟨r_4, hc_5, h⟩ := bd_s h
    refine callVi (As := [.int i1, .int i2]) (rest := []) (ws2 := (w5 h5 h2 h3 h1 h4 ++ w1 cI cJ h1 weights1a freshWeights1a signs1a lengths1a sums1a nextSums1a bestFrom1a bestPath1a weights1 freshWeights1 signs1 lengths1 sums1 nextSums1 bestFrom1 bestPath1)) ⟨hx, hb, hml, hown, hts⟩ (c_X1_hasPlace l D cI cJ h1 weights1a freshWeights1a signs1a lengths1a sums1a nextSums1a bestFrom1a bestPath1a weights1 freshWeights1 signs1 lengths1 sums1 nextSums1 bestFrom1 bestPath1 i1 i2 r_4 hc_5) (cwV 2 hts gX5_at_X1_hasPlace rfl rfl rfl (by decide +kernel) ⟨Nat.le_of_ble_eq_true rfl, Nat.le_of_ble_eq_true rfl⟩) hK hP hD hS hA [1, 2, 3, 4, 5, 6, 7, 8, 9] [0] [0, 1, 2, 3, 4, 5, 6, 7, 8, 9] ⟨[(h5, .inr (4, [.ref h2, .ref h3, .ref h1, .ref h4]))], rfl, rfl, rfl, rfl, by decide, rfl, rfl⟩ 0 0 rfl rfl rfl rfl hl.1 rfl (Nat.le_of_ble_eq_true rfl) dX5_at_13 ⟨Nat.le_of_ble_eq_true rfl, Nat.le_of_ble_eq_true rfl⟩ (fun H locs hP hD hS => ?_)
    refine lv_if_ne (tgt := 23) hx hb dX5_at_16 (by decide) (fun c_6 => ?_) (fun c_6 => ?_)
    · have h := it_n c_6 h
      refine lv_iload_n hx hb dX5_at_23 rfl (lv_at hl 3 rfl) ?_
      obtain ⟨r_7, hc_8, h⟩ := bd_s h
      refine callPi (As := [.int i3]) (rest := []) ⟨hx, hb, hml, hown, hts⟩ (c_X1_isState l D cI cJ i3 r_7 hc_8) (va_cwS 1 hts gX5_at_X1_isState rfl rfl rfl (by decide +kernel) ⟨Nat.le_of_ble_eq_true rfl, Nat.le_of_ble_eq_true rfl⟩) hK hP hD hS hA rfl hl.1 rfl (Nat.le_of_ble_eq_true rfl) dX5_at_24 ⟨Nat.le_of_ble_eq_true rfl, Nat.le_of_ble_eq_true rfl⟩ (fun H locs hP hD hS => ?_)
      refine lv_if_eq (tgt := 38) hx hb dX5_at_27 (by decide) (fun c_9 => ?_) (fun c_9 => ?_)
      · have h := it_p c_9 h
        refine lv_ldc2 (v := (-2)) hx hb hown hw1 dX5_at_38 ?_
        cases h
        exact hret _ _ _ _ _ rfl hP hD hS dX5_at_41
      · have h := it_n c_9 h
        refine lv_iload hx hb dX5_at_30 (lv_at hl 4 rfl) ?_
        obtain ⟨r_10, hc_11, h⟩ := bd_s h
        refine callPi (As := [.int i4]) (rest := []) ⟨hx, hb, hml, hown, hts⟩ (c_X5_isSide l D cI cJ i4 r_10 hc_11) (va_cwS 1 hts gX5_at_X5_isSide rfl rfl rfl (by decide +kernel) ⟨Nat.le_of_ble_eq_true rfl, Nat.le_of_ble_eq_true rfl⟩) hK hP hD hS hA rfl hl.1 rfl (Nat.le_of_ble_eq_true rfl) dX5_at_32 ⟨Nat.le_of_ble_eq_true rfl, Nat.le_of_ble_eq_true rfl⟩ (fun H locs hP hD hS => ?_)
        refine lv_if_ne (tgt := 42) hx hb dX5_at_35 (by decide) (fun c_12 => ?_) (fun c_12 => ?_)
        · have h := it_n c_12 h
          refine lv_aload_n hx hb dX5_at_42 rfl (lv_at hl 0 rfl) ?_
          refine va_get (D := D) (ci := 4) (v := .ref h1) (C := RX5) (T := TX5) (N := 4) hx hb hts hinX5 hown hK.1 hP 0 rfl rfl 2 (by decide) hw2 (fun _ h9 => h9) rfl dX5_at_43 ?_
          refine lv_iload_n hx hb dX5_at_46 rfl (lv_at hl 1 rfl) ?_
          obtain ⟨⟨rj_13, sums1_14, nextSums1_15⟩, hc_16, h⟩ := bd_s h
          refine callVl (As := [.int i1]) (rest := []) (ws2 := (w5 h5 h2 h3 h1 h4 ++ w1 cI cJ h1 weights1a freshWeights1a signs1a lengths1a sums1a nextSums1a bestFrom1a bestPath1a weights1 freshWeights1 signs1 lengths1 sums1_14 nextSums1_15 bestFrom1 bestPath1)) ⟨hx, hb, hml, hown, hts⟩ (c_X1_totalOf l D cI cJ h1 weights1a freshWeights1a signs1a lengths1a sums1a nextSums1a bestFrom1a bestPath1a weights1 freshWeights1 signs1 lengths1 sums1 nextSums1 bestFrom1 bestPath1 i1 rj_13 sums1_14 nextSums1_15 hc_16) (cwV 1 hts gX5_at_X1_totalOf rfl rfl rfl (by decide +kernel) ⟨Nat.le_of_ble_eq_true rfl, Nat.le_of_ble_eq_true rfl⟩) hK hP hD hS hA [1, 2, 3, 4, 5, 6, 7, 8, 9] [0] [0, 1, 2, 3, 4, 5, 6, 7, 8, 9] ⟨[(h5, .inr (4, [.ref h2, .ref h3, .ref h1, .ref h4]))], rfl, rfl, rfl, rfl, by decide, rfl, rfl⟩ 0 0 rfl rfl rfl rfl hl.1 rfl (Nat.le_of_ble_eq_true rfl) dX5_at_47 ⟨Nat.le_of_ble_eq_true rfl, Nat.le_of_ble_eq_true rfl⟩ (fun H locs hP hD hS => ?_)
          refine lv_topl (fun j5_17 ej5_17 => ?_)
          have h := nm_s h j5_17 ej5_17
          refine lv_lstore (lv' := [(5, .long j5_17), (0, .ref h5), (1, .int i1), (2, .int i2), (3, .int i3), (4, .int i4)]) hx hb dX5_at_50 hl (by decide) rfl (fun ls hl => ?_)
          refine lv_lload hx hb dX5_at_52 (lv_at hl 0 rfl) ?_
          refine lv_lconst (v := 0) hx hb dX5_at_54 (by decide) ?_
          refine W.lcmp hx hb dX5_at_55 ?_
          refine lv_if_ne (tgt := 69) hx hb dX5_at_56 (by decide) (fun c_18 => ?_) (fun c_18 => ?_)
          · have h := it_n c_18 h
            refine lv_aload_n hx hb dX5_at_69 rfl (lv_at hl 1 rfl) ?_
            refine va_get (D := D) (ci := 4) (v := .ref h1) (C := RX5) (T := TX5) (N := 4) hx hb hts hinX5 hown hK.1 hP 0 rfl rfl 2 (by decide) hw2 (fun _ h9 => h9) rfl dX5_at_70 ?_
            refine lv_iload_n hx hb dX5_at_73 rfl (lv_at hl 2 rfl) ?_
            refine lv_iload_n hx hb dX5_at_74 rfl (lv_at hl 3 rfl) ?_
            refine lv_iload_n hx hb dX5_at_75 rfl (lv_at hl 4 rfl) ?_
            obtain ⟨⟨rj_19, sums1_20, nextSums1_21⟩, hc_22, h⟩ := bd_s h
            refine callVl (As := [.int i1, .int i2, .int i3]) (rest := []) (ws2 := (w5 h5 h2 h3 h1 h4 ++ w1 cI cJ h1 weights1a freshWeights1a signs1a lengths1a sums1a nextSums1a bestFrom1a bestPath1a weights1 freshWeights1 signs1 lengths1 sums1_20 nextSums1_21 bestFrom1 bestPath1)) ⟨hx, hb, hml, hown, hts⟩ (c_X1_totalThrough l D cI cJ h1 weights1a freshWeights1a signs1a lengths1a sums1a nextSums1a bestFrom1a bestPath1a weights1 freshWeights1 signs1 lengths1 sums1_14 nextSums1_15 bestFrom1 bestPath1 i1 i2 i3 rj_19 sums1_20 nextSums1_21 hc_22) (cwV 3 hts gX5_at_X1_totalThrough rfl rfl rfl (by decide +kernel) ⟨Nat.le_of_ble_eq_true rfl, Nat.le_of_ble_eq_true rfl⟩) hK hP hD hS hA [1, 2, 3, 4, 5, 6, 7, 8, 9] [0] [0, 1, 2, 3, 4, 5, 6, 7, 8, 9] ⟨[(h5, .inr (4, [.ref h2, .ref h3, .ref h1, .ref h4]))], rfl, rfl, rfl, rfl, by decide, rfl, rfl⟩ 0 0 rfl rfl rfl rfl hl.1 rfl (Nat.le_of_ble_eq_true rfl) dX5_at_76 ⟨Nat.le_of_ble_eq_true rfl, Nat.le_of_ble_eq_true rfl⟩ (fun H locs hP hD hS => ?_)
            refine lv_lload hx hb dX5_at_79 (lv_at hl 0 rfl) ?_
            refine lv_iload hx hb dX5_at_81 (lv_at hl 5 rfl) ?_
            obtain ⟨rj_23, hc_24, h⟩ := bd_s h
            refine callPl (As := [.long rj_19, .long j5_17, .int i4]) (rest := []) ⟨hx, hb, hml, hown, hts⟩ (c_X0_sideOf l D cI cJ rj_19 j5_17 i4 rj_23 hc_24) (va_cwS 3 hts gX5_at_X0_sideOf rfl rfl rfl (by decide +kernel) ⟨Nat.le_of_ble_eq_true rfl, Nat.le_of_ble_eq_true rfl⟩) hK hP hD hS hA rfl hl.1 rfl (Nat.le_of_ble_eq_true rfl) dX5_at_83 ⟨Nat.le_of_ble_eq_true rfl, Nat.le_of_ble_eq_true rfl⟩ (fun H locs hP hD hS => ?_)
            cases h
            exact hret _ _ _ _ _ rfl hP hD hS dX5_at_86
          · have h := it_p c_18 h
            cases h
            exact hthr _ _ _ rfl hP hD hS hl.1
        · have h := it_p c_12 h
          refine lv_ldc2 (v := (-2)) hx hb hown hw1 dX5_at_38 ?_
          cases h
          exact hret _ _ _ _ _ rfl hP hD hS dX5_at_41
    · have h := it_p c_6 h
      refine lv_ldc2 (v := (-2)) hx hb hown hw1 dX5_at_19 ?_
      cases h
      exact hret _ _ _ _ _ rfl hP hD hS dX5_at_22
