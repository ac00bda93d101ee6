def f_X5_row (i1 : Int32) (labels2 : Nat → Int32) (guesses2 : Nat → Int32) (lengths2 : Nat → Int32) (words2 : Nat → Int32) (times2 : Nat → Int32) (totals2 : Nat → Int32) (sizes2 : Nat → Int32) (rowCount2 : Int32) : Option (Int32 × (Nat → Int32) × (Nat → Int32) × (Nat → Int32) × (Nat → Int32) × (Nat → Int32) × Int32) :=
  Option.bind (f_X5_isLabelOrNone i1) fun r_1 =>
  if r_1 = 0 then
    some ((-2), labels2, guesses2, times2, totals2, sizes2, rowCount2)
  else
    Option.bind (f_X2_isFull rowCount2) fun r_4 =>
    if r_4 = 0 then
      Option.bind (f_X2_open i1 labels2 guesses2 lengths2 words2 times2 totals2 sizes2 rowCount2) fun (r_7, labels2_8, guesses2_9, times2_10, totals2_11, sizes2_12, rowCount2_13) =>
      some (r_7, labels2_8, guesses2_9, times2_10, totals2_11, sizes2_12, rowCount2_13)
    else
      some ((-3), labels2, guesses2, times2, totals2, sizes2, rowCount2)
set_option maxHeartbeats 4000000 in
set_option maxRecDepth 100000 in
theorem c_X5_row (l : Launch) (D : va_G) (cI cJ : ClassId) (h5 h2 h3 h1 h4 labels2a guesses2a lengths2a words2a times2a totals2a sizes2a : Nat) (labels2 : Nat → Int32) (guesses2 : Nat → Int32) (lengths2 : Nat → Int32) (words2 : Nat → Int32) (times2 : Nat → Int32) (totals2 : Nat → Int32) (sizes2 : Nat → Int32) (rowCount2 : Int32) (addedUp2 : Int32) (addedDown2 : Int32) (i1 : Int32) (ret9 : Int32) (labels2z : Nat → Int32) (guesses2z : Nat → Int32) (times2z : Nat → Int32) (totals2z : Nat → Int32) (sizes2z : Nat → Int32) (rowCount2z : Int32) (h : f_X5_row i1 labels2 guesses2 lengths2 words2 times2 totals2 sizes2 rowCount2 = some (ret9, labels2z, guesses2z, times2z, totals2z, sizes2z, rowCount2z)) : CI l D cI cJ yX5_row wsX5_row 4 87 [.ref h5, .int i1] (w5 h5 h2 h3 h1 h4 ++ w2 cI cJ h2 labels2a guesses2a lengths2a words2a times2a totals2a sizes2a labels2 guesses2 lengths2 words2 times2 totals2 sizes2 rowCount2 addedUp2 addedDown2) (w5 h5 h2 h3 h1 h4 ++ w2 cI cJ h2 labels2a guesses2a lengths2a words2a times2a totals2a sizes2a labels2z guesses2z lengths2 words2 times2z totals2z sizes2z rowCount2z addedUp2 addedDown2) ret9 := by
  refine entI (cc := cX5_row) (maxL := 2) (by decide) rfl (Nat.le_of_ble_eq_true rfl) ?_
  intro p e s m args below meth c ls A Q X hret
  obtain ⟨hx, hb, hml, hts, hown, hK, hA, hP, hD, hS, hl, hnm⟩ := X
  have hown : s.vm.findClass RX5 = some m.cls := hown
  have hl : lv_has ls 2 [(0, .ref h5), (1, .int i1)] := hl
  have hw1 : (Cond.fieldLink RX5 10 "CountLearners" "rows" "LCountLearners$LabelledRows;").before args s = true := hts _ (by decide +kernel)
  have hinX5 : ∀ w ∈ wsX50, w ∈ wsX5_row := by decide +kernel
  unfold f_X5_row at h
  refine lv_iload_n hx hb dX5_row_0 rfl (lv_at hl 1 rfl) ?_
  obtain ⟨r_1, hc_2, h⟩ := bd_s h
  refine callPi (As := [.int i1]) (rest := []) ⟨hx, hb, hml, hown, hts⟩ (c_X5_isLabelOrNone l D cI cJ i1 r_1 hc_2) (va_cwS 1 hts gX5_row_X5_isLabelOrNone rfl rfl rfl (by decide +kernel) ⟨Nat.le_of_ble_eq_true rfl, Nat.le_of_ble_eq_true rfl⟩) hK hP hD hS hA rfl hl.1 rfl (Nat.le_of_ble_eq_true rfl) dX5_row_1 ⟨Nat.zero_le _, Nat.zero_le _⟩ (fun H locs hP hD hS => ?_)
  refine lv_if_ne (tgt := 10) hx hb dX5_row_4 (by decide) (fun c_3 => ?_) (fun c_3 => ?_)
  · have h := it_n c_3 h
    refine lv_aload_n hx hb dX5_row_10 rfl (lv_at hl 0 rfl) ?_
    refine va_get (D := D) (ci := 4) (v := .ref h2) (C := RX5) (T := TX5) (N := 4) hx hb hts hinX5 hown hK.1 hP 0 rfl rfl 0 (by decide) hw1 (fun _ h9 => h9) rfl dX5_row_11 ?_
    obtain ⟨r_4, hc_5, h⟩ := bd_s h
    refine callVi (As := []) (rest := []) (ws2 := (w5 h5 h2 h3 h1 h4 ++ w2 cI cJ h2 labels2a guesses2a lengths2a words2a times2a totals2a sizes2a labels2 guesses2 lengths2 words2 times2 totals2 sizes2 rowCount2 addedUp2 addedDown2)) ⟨hx, hb, hml, hown, hts⟩ (c_X2_isFull l D cI cJ h2 labels2a guesses2a lengths2a words2a times2a totals2a sizes2a labels2 guesses2 lengths2 words2 times2 totals2 sizes2 rowCount2 addedUp2 addedDown2 r_4 hc_5) (cwV 0 hts gX5_row_X2_isFull rfl rfl rfl (by decide +kernel) ⟨Nat.le_of_ble_eq_true rfl, Nat.le_of_ble_eq_true rfl⟩) hK hP hD hS hA [1, 2, 3, 4, 5, 6, 7, 8] [0] [0, 1, 2, 3, 4, 5, 6, 7, 8] ⟨[(h5, .inr (4, [.ref h2, .ref h3, .ref h1, .ref h4]))], rfl, rfl, rfl, rfl, by decide, rfl, rfl⟩ 0 1 rfl rfl rfl rfl hl.1 rfl (Nat.le_of_ble_eq_true rfl) dX5_row_14 ⟨Nat.zero_le _, Nat.zero_le _⟩ (fun H locs hP hD hS => ?_)
    refine lv_if_eq (tgt := 23) hx hb dX5_row_17 (by decide) (fun c_6 => ?_) (fun c_6 => ?_)
    · have h := it_p c_6 h
      refine lv_aload_n hx hb dX5_row_23 rfl (lv_at hl 0 rfl) ?_
      refine va_get (D := D) (ci := 4) (v := .ref h2) (C := RX5) (T := TX5) (N := 4) hx hb hts hinX5 hown hK.1 hP 0 rfl rfl 0 (by decide) hw1 (fun _ h9 => h9) rfl dX5_row_24 ?_
      refine lv_iload_n hx hb dX5_row_27 rfl (lv_at hl 1 rfl) ?_
      obtain ⟨⟨r_7, labels2_8, guesses2_9, times2_10, totals2_11, sizes2_12, rowCount2_13⟩, hc_14, h⟩ := bd_s h
      refine callVi (As := [.int i1]) (rest := []) (ws2 := (w5 h5 h2 h3 h1 h4 ++ w2 cI cJ h2 labels2a guesses2a lengths2a words2a times2a totals2a sizes2a labels2_8 guesses2_9 lengths2 words2 times2_10 totals2_11 sizes2_12 rowCount2_13 addedUp2 addedDown2)) ⟨hx, hb, hml, hown, hts⟩ (c_X2_open l D cI cJ h2 labels2a guesses2a lengths2a words2a times2a totals2a sizes2a labels2 guesses2 lengths2 words2 times2 totals2 sizes2 rowCount2 addedUp2 addedDown2 i1 r_7 labels2_8 guesses2_9 times2_10 totals2_11 sizes2_12 rowCount2_13 hc_14) (cwV 1 hts gX5_row_X2_open rfl rfl rfl (by decide +kernel) ⟨Nat.le_of_ble_eq_true rfl, Nat.le_of_ble_eq_true rfl⟩) hK hP hD hS hA [1, 2, 3, 4, 5, 6, 7, 8] [0] [0, 1, 2, 3, 4, 5, 6, 7, 8] ⟨[(h5, .inr (4, [.ref h2, .ref h3, .ref h1, .ref h4]))], rfl, rfl, rfl, rfl, by decide, rfl, rfl⟩ 0 1 rfl rfl rfl rfl hl.1 rfl (Nat.le_of_ble_eq_true rfl) dX5_row_28 ⟨Nat.zero_le _, Nat.zero_le _⟩ (fun H locs hP hD hS => ?_)
      cases h
      exact hret _ _ _ _ hP hD hS dX5_row_31
    · have h := it_n c_6 h
      refine lv_bipush (v := (-3)) hx hb dX5_row_20 (by decide) ?_
      cases h
      exact hret _ _ _ _ hP hD hS dX5_row_22
  · have h := it_p c_3 h
    refine lv_bipush (v := (-2)) hx hb dX5_row_7 (by decide) ?_
    cases h
    exact hret _ _ _ _ hP hD hS dX5_row_9
def f_X5_word (i1 : Int32) (i2 : Int32) (labels2 : Nat → Int32) (guesses2 : Nat → Int32) (lengths2 : Nat → Int32) (words2 : Nat → Int32) (times2 : Nat → Int32) (totals2 : Nat → Int32) (sizes2 : Nat → Int32) (rowCount2 : Int32) : Option (Int32 × (Nat → Int32) × (Nat → Int32) × (Nat → Int32) × (Nat → Int32) × (Nat → Int32) × (Nat → Int32)) :=
  Option.bind (f_X2_has i1 rowCount2) fun r_1 =>
  if r_1 = 0 then
    some ((-2), guesses2, lengths2, words2, times2, totals2, sizes2)
  else
    Option.bind (f_X5_isWord i2) fun r_4 =>
    if r_4 = 0 then
      some ((-2), guesses2, lengths2, words2, times2, totals2, sizes2)
    else
      Option.bind (f_X2_isFullRow i1 lengths2) fun r_7 =>
      if r_7 = 0 then
        Option.bind (f_X2_append i1 i2 labels2 guesses2 lengths2 words2 times2 totals2 sizes2 rowCount2) fun (r_10, guesses2_11, lengths2_12, words2_13, times2_14, totals2_15, sizes2_16) =>
        some (r_10, guesses2_11, lengths2_12, words2_13, times2_14, totals2_15, sizes2_16)
      else
        some ((-3), guesses2, lengths2, words2, times2, totals2, sizes2)
set_option maxHeartbeats 4000000 in
set_option maxRecDepth 100000 in
theorem c_X5_word (l : Launch) (D : va_G) (cI cJ : ClassId) (h5 h2 h3 h1 h4 labels2a guesses2a lengths2a words2a times2a totals2a sizes2a : Nat) (labels2 : Nat → Int32) (guesses2 : Nat → Int32) (lengths2 : Nat → Int32) (words2 : Nat → Int32) (times2 : Nat → Int32) (totals2 : Nat → Int32) (sizes2 : Nat → Int32) (rowCount2 : Int32) (addedUp2 : Int32) (addedDown2 : Int32) (i1 : Int32) (i2 : Int32) (ret9 : Int32) (guesses2z : Nat → Int32) (lengths2z : Nat → Int32) (words2z : Nat → Int32) (times2z : Nat → Int32) (totals2z : Nat → Int32) (sizes2z : Nat → Int32) (h : f_X5_word i1 i2 labels2 guesses2 lengths2 words2 times2 totals2 sizes2 rowCount2 = some (ret9, guesses2z, lengths2z, words2z, times2z, totals2z, sizes2z)) : CI l D cI cJ yX5_word wsX5_word 4 87 [.ref h5, .int i1, .int i2] (w5 h5 h2 h3 h1 h4 ++ w2 cI cJ h2 labels2a guesses2a lengths2a words2a times2a totals2a sizes2a labels2 guesses2 lengths2 words2 times2 totals2 sizes2 rowCount2 addedUp2 addedDown2) (w5 h5 h2 h3 h1 h4 ++ w2 cI cJ h2 labels2a guesses2a lengths2a words2a times2a totals2a sizes2a labels2 guesses2z lengths2z words2z times2z totals2z sizes2z rowCount2 addedUp2 addedDown2) ret9 := by
  refine entI (cc := cX5_word) (maxL := 3) (by decide) rfl (Nat.le_of_ble_eq_true rfl) ?_
  intro p e s m args below meth c ls A Q X hret
  obtain ⟨hx, hb, hml, hts, hown, hK, hA, hP, hD, hS, hl, hnm⟩ := X
  have hown : s.vm.findClass RX5 = some m.cls := hown
  have hl : lv_has ls 3 [(0, .ref h5), (1, .int i1), (2, .int i2)] := hl
  have hw1 : (Cond.fieldLink RX5 10 "CountLearners" "rows" "LCountLearners$LabelledRows;").before args s = true := hts _ (by decide +kernel)
  have hinX5 : ∀ w ∈ wsX50, w ∈ wsX5_word := by decide +kernel
  unfold f_X5_word at h
  refine lv_aload_n hx hb dX5_word_0 rfl (lv_at hl 0 rfl) ?_
  refine va_get (D := D) (ci := 4) (v := .ref h2) (C := RX5) (T := TX5) (N := 4) hx hb hts hinX5 hown hK.1 hP 0 rfl rfl 0 (by decide) hw1 (fun _ h9 => h9) rfl dX5_word_1 ?_
  refine lv_iload_n hx hb dX5_word_4 rfl (lv_at hl 1 rfl) ?_
  obtain ⟨r_1, hc_2, h⟩ := bd_s h
  refine callVi (As := [.int i1]) (rest := []) (ws2 := (w5 h5 h2 h3 h1 h4 ++ w2 cI cJ h2 labels2a guesses2a lengths2a words2a times2a totals2a sizes2a labels2 guesses2 lengths2 words2 times2 totals2 sizes2 rowCount2 addedUp2 addedDown2)) ⟨hx, hb, hml, hown, hts⟩ (c_X2_has l D cI cJ h2 labels2a guesses2a lengths2a words2a times2a totals2a sizes2a labels2 guesses2 lengths2 words2 times2 totals2 sizes2 rowCount2 addedUp2 addedDown2 i1 r_1 hc_2) (cwV 1 hts gX5_word_X2_has rfl rfl rfl (by decide +kernel) ⟨Nat.le_of_ble_eq_true rfl, Nat.le_of_ble_eq_true rfl⟩) hK hP hD hS hA [1, 2, 3, 4, 5, 6, 7, 8] [0] [0, 1, 2, 3, 4, 5, 6, 7, 8] ⟨[(h5, .inr (4, [.ref h2, .ref h3, .ref h1, .ref h4]))], rfl, rfl, rfl, rfl, by decide, rfl, rfl⟩ 0 1 rfl rfl rfl rfl hl.1 rfl (Nat.le_of_ble_eq_true rfl) dX5_word_5 ⟨Nat.zero_le _, Nat.zero_le _⟩ (fun H locs hP hD hS => ?_)
  refine lv_if_eq (tgt := 18) hx hb dX5_word_8 (by decide) (fun c_3 => ?_) (fun c_3 => ?_)
  · have h := it_p c_3 h
    refine lv_bipush (v := (-2)) hx hb dX5_word_18 (by decide) ?_
    cases h
    exact hret _ _ _ _ hP hD hS dX5_word_20
  · have h := it_n c_3 h
    refine lv_iload_n hx hb dX5_word_11 rfl (lv_at hl 2 rfl) ?_
    obtain ⟨r_4, hc_5, h⟩ := bd_s h
    refine callPi (As := [.int i2]) (rest := []) ⟨hx, hb, hml, hown, hts⟩ (c_X5_isWord l D cI cJ i2 r_4 hc_5) (va_cwS 1 hts gX5_word_X5_isWord rfl rfl rfl (by decide +kernel) ⟨Nat.le_of_ble_eq_true rfl, Nat.le_of_ble_eq_true rfl⟩) hK hP hD hS hA rfl hl.1 rfl (Nat.le_of_ble_eq_true rfl) dX5_word_12 ⟨Nat.zero_le _, Nat.zero_le _⟩ (fun H locs hP hD hS => ?_)
    refine lv_if_ne (tgt := 21) hx hb dX5_word_15 (by decide) (fun c_6 => ?_) (fun c_6 => ?_)
    · have h := it_n c_6 h
      refine lv_aload_n hx hb dX5_word_21 rfl (lv_at hl 0 rfl) ?_
      refine va_get (D := D) (ci := 4) (v := .ref h2) (C := RX5) (T := TX5) (N := 4) hx hb hts hinX5 hown hK.1 hP 0 rfl rfl 0 (by decide) hw1 (fun _ h9 => h9) rfl dX5_word_22 ?_
      refine lv_iload_n hx hb dX5_word_25 rfl (lv_at hl 1 rfl) ?_
      obtain ⟨r_7, hc_8, h⟩ := bd_s h
      refine callVi (As := [.int i1]) (rest := []) (ws2 := (w5 h5 h2 h3 h1 h4 ++ w2 cI cJ h2 labels2a guesses2a lengths2a words2a times2a totals2a sizes2a labels2 guesses2 lengths2 words2 times2 totals2 sizes2 rowCount2 addedUp2 addedDown2)) ⟨hx, hb, hml, hown, hts⟩ (c_X2_isFullRow l D cI cJ h2 labels2a guesses2a lengths2a words2a times2a totals2a sizes2a labels2 guesses2 lengths2 words2 times2 totals2 sizes2 rowCount2 addedUp2 addedDown2 i1 r_7 hc_8) (cwV 1 hts gX5_word_X2_isFullRow rfl rfl rfl (by decide +kernel) ⟨Nat.le_of_ble_eq_true rfl, Nat.le_of_ble_eq_true rfl⟩) hK hP hD hS hA [1, 2, 3, 4, 5, 6, 7, 8] [0] [0, 1, 2, 3, 4, 5, 6, 7, 8] ⟨[(h5, .inr (4, [.ref h2, .ref h3, .ref h1, .ref h4]))], rfl, rfl, rfl, rfl, by decide, rfl, rfl⟩ 0 1 rfl rfl rfl rfl hl.1 rfl (Nat.le_of_ble_eq_true rfl) dX5_word_26 ⟨Nat.zero_le _, Nat.zero_le _⟩ (fun H locs hP hD hS => ?_)
      refine lv_if_eq (tgt := 35) hx hb dX5_word_29 (by decide) (fun c_9 => ?_) (fun c_9 => ?_)
      · have h := it_p c_9 h
        refine lv_aload_n hx hb dX5_word_35 rfl (lv_at hl 0 rfl) ?_
        refine va_get (D := D) (ci := 4) (v := .ref h2) (C := RX5) (T := TX5) (N := 4) hx hb hts hinX5 hown hK.1 hP 0 rfl rfl 0 (by decide) hw1 (fun _ h9 => h9) rfl dX5_word_36 ?_
        refine lv_iload_n hx hb dX5_word_39 rfl (lv_at hl 1 rfl) ?_
        refine lv_iload_n hx hb dX5_word_40 rfl (lv_at hl 2 rfl) ?_
        obtain ⟨⟨r_10, guesses2_11, lengths2_12, words2_13, times2_14, totals2_15, sizes2_16⟩, hc_17, h⟩ := bd_s h
        refine callVi (As := [.int i1, .int i2]) (rest := []) (ws2 := (w5 h5 h2 h3 h1 h4 ++ w2 cI cJ h2 labels2a guesses2a lengths2a words2a times2a totals2a sizes2a labels2 guesses2_11 lengths2_12 words2_13 times2_14 totals2_15 sizes2_16 rowCount2 addedUp2 addedDown2)) ⟨hx, hb, hml, hown, hts⟩ (c_X2_append l D cI cJ h2 labels2a guesses2a lengths2a words2a times2a totals2a sizes2a labels2 guesses2 lengths2 words2 times2 totals2 sizes2 rowCount2 addedUp2 addedDown2 i1 i2 r_10 guesses2_11 lengths2_12 words2_13 times2_14 totals2_15 sizes2_16 hc_17) (cwV 2 hts gX5_word_X2_append rfl rfl rfl (by decide +kernel) ⟨Nat.le_of_ble_eq_true rfl, Nat.le_of_ble_eq_true rfl⟩) hK hP hD hS hA [1, 2, 3, 4, 5, 6, 7, 8] [0] [0, 1, 2, 3, 4, 5, 6, 7, 8] ⟨[(h5, .inr (4, [.ref h2, .ref h3, .ref h1, .ref h4]))], rfl, rfl, rfl, rfl, by decide, rfl, rfl⟩ 0 1 rfl rfl rfl rfl hl.1 rfl (Nat.le_of_ble_eq_true rfl) dX5_word_41 ⟨Nat.zero_le _, Nat.zero_le _⟩ (fun H locs hP hD hS => ?_)
        cases h
        exact hret _ _ _ _ hP hD hS dX5_word_44
      · have h := it_n c_9 h
        refine lv_bipush (v := (-3)) hx hb dX5_word_32 (by decide) ?_
        cases h
        exact hret _ _ _ _ hP hD hS dX5_word_34
    · have h := it_p c_6 h
      refine lv_bipush (v := (-2)) hx hb dX5_word_18 (by decide) ?_
      cases h
      exact hret _ _ _ _ hP hD hS dX5_word_20
def f_X5_label (i1 : Int32) (i2 : Int32) (labels2 : Nat → Int32) (guesses2 : Nat → Int32) (lengths2 : Nat → Int32) (words2 : Nat → Int32) (times2 : Nat → Int32) (totals2 : Nat → Int32) (sizes2 : Nat → Int32) (rowCount2 : Int32) : Option (Int32 × (Nat → Int32) × (Nat → Int32) × (Nat → Int32) × (Nat → Int32) × (Nat → Int32)) :=
  Option.bind (f_X2_has i1 rowCount2) fun r_1 =>
  if r_1 = 0 then
    some ((-2), labels2, guesses2, times2, totals2, sizes2)
  else
    Option.bind (f_X5_isLabelOrNone i2) fun r_4 =>
    if r_4 = 0 then
      some ((-2), labels2, guesses2, times2, totals2, sizes2)
    else
      Option.bind (f_X2_relabel i1 i2 labels2 guesses2 lengths2 words2 times2 totals2 sizes2 rowCount2) fun (r_7, labels2_8, guesses2_9, times2_10, totals2_11, sizes2_12) =>
      some (r_7, labels2_8, guesses2_9, times2_10, totals2_11, sizes2_12)
set_option maxHeartbeats 4000000 in
set_option maxRecDepth 100000 in
theorem c_X5_label (l : Launch) (D : va_G) (cI cJ : ClassId) (h5 h2 h3 h1 h4 labels2a guesses2a lengths2a words2a times2a totals2a sizes2a : Nat) (labels2 : Nat → Int32) (guesses2 : Nat → Int32) (lengths2 : Nat → Int32) (words2 : Nat → Int32) (times2 : Nat → Int32) (totals2 : Nat → Int32) (sizes2 : Nat → Int32) (rowCount2 : Int32) (addedUp2 : Int32) (addedDown2 : Int32) (i1 : Int32) (i2 : Int32) (ret9 : Int32) (labels2z : Nat → Int32) (guesses2z : Nat → Int32) (times2z : Nat → Int32) (totals2z : Nat → Int32) (sizes2z : Nat → Int32) (h : f_X5_label i1 i2 labels2 guesses2 lengths2 words2 times2 totals2 sizes2 rowCount2 = some (ret9, labels2z, guesses2z, times2z, totals2z, sizes2z)) : CI l D cI cJ yX5_label wsX5_label 4 88 [.ref h5, .int i1, .int i2] (w5 h5 h2 h3 h1 h4 ++ w2 cI cJ h2 labels2a guesses2a lengths2a words2a times2a totals2a sizes2a labels2 guesses2 lengths2 words2 times2 totals2 sizes2 rowCount2 addedUp2 addedDown2) (w5 h5 h2 h3 h1 h4 ++ w2 cI cJ h2 labels2a guesses2a lengths2a words2a times2a totals2a sizes2a labels2z guesses2z lengths2 words2 times2z totals2z sizes2z rowCount2 addedUp2 addedDown2) ret9 := by
  refine entI (cc := cX5_label) (maxL := 3) (by decide) rfl (Nat.le_of_ble_eq_true rfl) ?_
  intro p e s m args below meth c ls A Q X hret
  obtain ⟨hx, hb, hml, hts, hown, hK, hA, hP, hD, hS, hl, hnm⟩ := X
  have hown : s.vm.findClass RX5 = some m.cls := hown
  have hl : lv_has ls 3 [(0, .ref h5), (1, .int i1), (2, .int i2)] := hl
  have hw1 : (Cond.fieldLink RX5 10 "CountLearners" "rows" "LCountLearners$LabelledRows;").before args s = true := hts _ (by decide +kernel)
  have hinX5 : ∀ w ∈ wsX50, w ∈ wsX5_label := by decide +kernel
  unfold f_X5_label at h
  refine lv_aload_n hx hb dX5_label_0 rfl (lv_at hl 0 rfl) ?_
  refine va_get (D := D) (ci := 4) (v := .ref h2) (C := RX5) (T := TX5) (N := 4) hx hb hts hinX5 hown hK.1 hP 0 rfl rfl 0 (by decide) hw1 (fun _ h9 => h9) rfl dX5_label_1 ?_
  refine lv_iload_n hx hb dX5_label_4 rfl (lv_at hl 1 rfl) ?_
  obtain ⟨r_1, hc_2, h⟩ := bd_s h
  refine callVi (As := [.int i1]) (rest := []) (ws2 := (w5 h5 h2 h3 h1 h4 ++ w2 cI cJ h2 labels2a guesses2a lengths2a words2a times2a totals2a sizes2a labels2 guesses2 lengths2 words2 times2 totals2 sizes2 rowCount2 addedUp2 addedDown2)) ⟨hx, hb, hml, hown, hts⟩ (c_X2_has l D cI cJ h2 labels2a guesses2a lengths2a words2a times2a totals2a sizes2a labels2 guesses2 lengths2 words2 times2 totals2 sizes2 rowCount2 addedUp2 addedDown2 i1 r_1 hc_2) (cwV 1 hts gX5_label_X2_has rfl rfl rfl (by decide +kernel) ⟨Nat.le_of_ble_eq_true rfl, Nat.le_of_ble_eq_true rfl⟩) hK hP hD hS hA [1, 2, 3, 4, 5, 6, 7, 8] [0] [0, 1, 2, 3, 4, 5, 6, 7, 8] ⟨[(h5, .inr (4, [.ref h2, .ref h3, .ref h1, .ref h4]))], rfl, rfl, rfl, rfl, by decide, rfl, rfl⟩ 0 1 rfl rfl rfl rfl hl.1 rfl (Nat.le_of_ble_eq_true rfl) dX5_label_5 ⟨Nat.zero_le _, Nat.zero_le _⟩ (fun H locs hP hD hS => ?_)
  refine lv_if_eq (tgt := 18) hx hb dX5_label_8 (by decide) (fun c_3 => ?_) (fun c_3 => ?_)
  · have h := it_p c_3 h
    refine lv_bipush (v := (-2)) hx hb dX5_label_18 (by decide) ?_
    cases h
    exact hret _ _ _ _ hP hD hS dX5_label_20
  · have h := it_n c_3 h
    refine lv_iload_n hx hb dX5_label_11 rfl (lv_at hl 2 rfl) ?_
    obtain ⟨r_4, hc_5, h⟩ := bd_s h
    refine callPi (As := [.int i2]) (rest := []) ⟨hx, hb, hml, hown, hts⟩ (c_X5_isLabelOrNone l D cI cJ i2 r_4 hc_5) (va_cwS 1 hts gX5_label_X5_isLabelOrNone rfl rfl rfl (by decide +kernel) ⟨Nat.le_of_ble_eq_true rfl, Nat.le_of_ble_eq_true rfl⟩) hK hP hD hS hA rfl hl.1 rfl (Nat.le_of_ble_eq_true rfl) dX5_label_12 ⟨Nat.zero_le _, Nat.zero_le _⟩ (fun H locs hP hD hS => ?_)
    refine lv_if_ne (tgt := 21) hx hb dX5_label_15 (by decide) (fun c_6 => ?_) (fun c_6 => ?_)
    · have h := it_n c_6 h
      refine lv_aload_n hx hb dX5_label_21 rfl (lv_at hl 0 rfl) ?_
      refine va_get (D := D) (ci := 4) (v := .ref h2) (C := RX5) (T := TX5) (N := 4) hx hb hts hinX5 hown hK.1 hP 0 rfl rfl 0 (by decide) hw1 (fun _ h9 => h9) rfl dX5_label_22 ?_
      refine lv_iload_n hx hb dX5_label_25 rfl (lv_at hl 1 rfl) ?_
      refine lv_iload_n hx hb dX5_label_26 rfl (lv_at hl 2 rfl) ?_
      obtain ⟨⟨r_7, labels2_8, guesses2_9, times2_10, totals2_11, sizes2_12⟩, hc_13, h⟩ := bd_s h
      refine callVi (As := [.int i1, .int i2]) (rest := []) (ws2 := (w5 h5 h2 h3 h1 h4 ++ w2 cI cJ h2 labels2a guesses2a lengths2a words2a times2a totals2a sizes2a labels2_8 guesses2_9 lengths2 words2 times2_10 totals2_11 sizes2_12 rowCount2 addedUp2 addedDown2)) ⟨hx, hb, hml, hown, hts⟩ (c_X2_relabel l D cI cJ h2 labels2a guesses2a lengths2a words2a times2a totals2a sizes2a labels2 guesses2 lengths2 words2 times2 totals2 sizes2 rowCount2 addedUp2 addedDown2 i1 i2 r_7 labels2_8 guesses2_9 times2_10 totals2_11 sizes2_12 hc_13) (cwV 2 hts gX5_label_X2_relabel rfl rfl rfl (by decide +kernel) ⟨Nat.le_of_ble_eq_true rfl, Nat.le_of_ble_eq_true rfl⟩) hK hP hD hS hA [1, 2, 3, 4, 5, 6, 7, 8] [0] [0, 1, 2, 3, 4, 5, 6, 7, 8] ⟨[(h5, .inr (4, [.ref h2, .ref h3, .ref h1, .ref h4]))], rfl, rfl, rfl, rfl, by decide, rfl, rfl⟩ 0 1 rfl rfl rfl rfl hl.1 rfl (Nat.le_of_ble_eq_true rfl) dX5_label_27 ⟨Nat.zero_le _, Nat.zero_le _⟩ (fun H locs hP hD hS => ?_)
      cases h
      exact hret _ _ _ _ hP hD hS dX5_label_30
    · have h := it_p c_6 h
      refine lv_bipush (v := (-2)) hx hb dX5_label_18 (by decide) ?_
      cases h
      exact hret _ _ _ _ hP hD hS dX5_label_20
def f_X5_addition (i1 : Int32) (i2 : Int32) (labels2 : Nat → Int32) (guesses2 : Nat → Int32) (lengths2 : Nat → Int32) (words2 : Nat → Int32) (times2 : Nat → Int32) (totals2 : Nat → Int32) (sizes2 : Nat → Int32) (rowCount2 : Int32) (addedUp2 : Int32) (addedDown2 : Int32) : Option (Int32 × (Nat → Int32) × (Nat → Int32) × (Nat → Int32) × (Nat → Int32) × Int32 × Int32) :=
  Option.bind (f_X5_isWithin i1 0 3) fun r_1 =>
  if r_1 = 0 then
    some ((-2), guesses2, times2, totals2, sizes2, addedUp2, addedDown2)
  else
    Option.bind (f_X5_isWithin i2 1 3) fun r_4 =>
    if r_4 = 0 then
      some ((-2), guesses2, times2, totals2, sizes2, addedUp2, addedDown2)
    else
      Option.bind (f_X2_setAddition i1 i2 labels2 guesses2 lengths2 words2 times2 totals2 sizes2 rowCount2 addedUp2 addedDown2) fun (guesses2_7, times2_8, totals2_9, sizes2_10, addedUp2_11, addedDown2_12) =>
      some (1, guesses2_7, times2_8, totals2_9, sizes2_10, addedUp2_11, addedDown2_12)
set_option maxHeartbeats 4000000 in
set_option maxRecDepth 100000 in
theorem c_X5_addition (l : Launch) (D : va_G) (cI cJ : ClassId) (h5 h2 h3 h1 h4 labels2a guesses2a lengths2a words2a times2a totals2a sizes2a : Nat) (labels2 : Nat → Int32) (guesses2 : Nat → Int32) (lengths2 : Nat → Int32) (words2 : Nat → Int32) (times2 : Nat → Int32) (totals2 : Nat → Int32) (sizes2 : Nat → Int32) (rowCount2 : Int32) (addedUp2 : Int32) (addedDown2 : Int32) (i1 : Int32) (i2 : Int32) (ret9 : Int32) (guesses2z : Nat → Int32) (times2z : Nat → Int32) (totals2z : Nat → Int32) (sizes2z : Nat → Int32) (addedUp2z : Int32) (addedDown2z : Int32) (h : f_X5_addition i1 i2 labels2 guesses2 lengths2 words2 times2 totals2 sizes2 rowCount2 addedUp2 addedDown2 = some (ret9, guesses2z, times2z, totals2z, sizes2z, addedUp2z, addedDown2z)) : CI l D cI cJ yX5_addition wsX5_addition 4 87 [.ref h5, .int i1, .int i2] (w5 h5 h2 h3 h1 h4 ++ w2 cI cJ h2 labels2a guesses2a lengths2a words2a times2a totals2a sizes2a labels2 guesses2 lengths2 words2 times2 totals2 sizes2 rowCount2 addedUp2 addedDown2) (w5 h5 h2 h3 h1 h4 ++ w2 cI cJ h2 labels2a guesses2a lengths2a words2a times2a totals2a sizes2a labels2 guesses2z lengths2 words2 times2z totals2z sizes2z rowCount2 addedUp2z addedDown2z) ret9 := by
  refine entI (cc := cX5_addition) (maxL := 3) (by decide) rfl (Nat.le_of_ble_eq_true rfl) ?_
  intro p e s m args below meth c ls A Q X hret
  obtain ⟨hx, hb, hml, hts, hown, hK, hA, hP, hD, hS, hl, hnm⟩ := X
  have hown : s.vm.findClass RX5 = some m.cls := hown
  have hl : lv_has ls 3 [(0, .ref h5), (1, .int i1), (2, .int i2)] := hl
  have hw1 : (Cond.fieldLink RX5 10 "CountLearners" "rows" "LCountLearners$LabelledRows;").before args s = true := hts _ (by decide +kernel)
  have hinX5 : ∀ w ∈ wsX50, w ∈ wsX5_addition := by decide +kernel
  unfold f_X5_addition at h
  refine lv_iload_n hx hb dX5_addition_0 rfl (lv_at hl 1 rfl) ?_
  refine lv_iconst (v := 0) hx hb dX5_addition_1 (by decide) ?_
  refine lv_iconst (v := 3) hx hb dX5_addition_2 (by decide) ?_
  obtain ⟨r_1, hc_2, h⟩ := bd_s h
  refine callPi (As := [.int i1, .int 0, .int 3]) (rest := []) ⟨hx, hb, hml, hown, hts⟩ (c_X5_isWithin l D cI cJ i1 0 3 r_1 hc_2) (va_cwS 3 hts gX5_addition_X5_isWithin rfl rfl rfl (by decide +kernel) ⟨Nat.le_of_ble_eq_true rfl, Nat.le_of_ble_eq_true rfl⟩) hK hP hD hS hA rfl hl.1 rfl (Nat.le_of_ble_eq_true rfl) dX5_addition_3 ⟨Nat.zero_le _, Nat.zero_le _⟩ (fun H locs hP hD hS => ?_)
  refine lv_if_eq (tgt := 18) hx hb dX5_addition_6 (by decide) (fun c_3 => ?_) (fun c_3 => ?_)
  · have h := it_p c_3 h
    refine lv_bipush (v := (-2)) hx hb dX5_addition_18 (by decide) ?_
    cases h
    exact hret _ _ _ _ hP hD hS dX5_addition_20
  · have h := it_n c_3 h
    refine lv_iload_n hx hb dX5_addition_9 rfl (lv_at hl 2 rfl) ?_
    refine lv_iconst (v := 1) hx hb dX5_addition_10 (by decide) ?_
    refine lv_iconst (v := 3) hx hb dX5_addition_11 (by decide) ?_
    obtain ⟨r_4, hc_5, h⟩ := bd_s h
    refine callPi (As := [.int i2, .int 1, .int 3]) (rest := []) ⟨hx, hb, hml, hown, hts⟩ (c_X5_isWithin l D cI cJ i2 1 3 r_4 hc_5) (va_cwS 3 hts gX5_addition_X5_isWithin rfl rfl rfl (by decide +kernel) ⟨Nat.le_of_ble_eq_true rfl, Nat.le_of_ble_eq_true rfl⟩) hK hP hD hS hA rfl hl.1 rfl (Nat.le_of_ble_eq_true rfl) dX5_addition_12 ⟨Nat.zero_le _, Nat.zero_le _⟩ (fun H locs hP hD hS => ?_)
    refine lv_if_ne (tgt := 21) hx hb dX5_addition_15 (by decide) (fun c_6 => ?_) (fun c_6 => ?_)
    · have h := it_n c_6 h
      refine lv_aload_n hx hb dX5_addition_21 rfl (lv_at hl 0 rfl) ?_
      refine va_get (D := D) (ci := 4) (v := .ref h2) (C := RX5) (T := TX5) (N := 4) hx hb hts hinX5 hown hK.1 hP 0 rfl rfl 0 (by decide) hw1 (fun _ h9 => h9) rfl dX5_addition_22 ?_
      refine lv_iload_n hx hb dX5_addition_25 rfl (lv_at hl 1 rfl) ?_
      refine lv_iload_n hx hb dX5_addition_26 rfl (lv_at hl 2 rfl) ?_
      obtain ⟨⟨guesses2_7, times2_8, totals2_9, sizes2_10, addedUp2_11, addedDown2_12⟩, hc_13, h⟩ := bd_s h
      refine callVv (As := [.int i1, .int i2]) (rest := []) (ws2 := (w5 h5 h2 h3 h1 h4 ++ w2 cI cJ h2 labels2a guesses2a lengths2a words2a times2a totals2a sizes2a labels2 guesses2_7 lengths2 words2 times2_8 totals2_9 sizes2_10 rowCount2 addedUp2_11 addedDown2_12)) ⟨hx, hb, hml, hown, hts⟩ (c_X2_setAddition l D cI cJ h2 labels2a guesses2a lengths2a words2a times2a totals2a sizes2a labels2 guesses2 lengths2 words2 times2 totals2 sizes2 rowCount2 addedUp2 addedDown2 i1 i2 guesses2_7 times2_8 totals2_9 sizes2_10 addedUp2_11 addedDown2_12 hc_13) (cwV 2 hts gX5_addition_X2_setAddition rfl rfl rfl (by decide +kernel) ⟨Nat.le_of_ble_eq_true rfl, Nat.le_of_ble_eq_true rfl⟩) hK hP hD hS hA [1, 2, 3, 4, 5, 6, 7, 8] [0] [0, 1, 2, 3, 4, 5, 6, 7, 8] ⟨[(h5, .inr (4, [.ref h2, .ref h3, .ref h1, .ref h4]))], rfl, rfl, rfl, rfl, by decide, rfl, rfl⟩ 0 1 rfl rfl rfl rfl hl.1 rfl (Nat.le_of_ble_eq_true rfl) dX5_addition_27 ⟨Nat.zero_le _, Nat.zero_le _⟩ (fun H locs hP hD hS => ?_)
      refine lv_iconst (v := 1) hx hb dX5_addition_30 (by decide) ?_
      cases h
      exact hret _ _ _ _ hP hD hS dX5_addition_31
    · have h := it_p c_6 h
      refine lv_bipush (v := (-2)) hx hb dX5_addition_18 (by decide) ?_
      cases h
      exact hret _ _ _ _ hP hD hS dX5_addition_20
def f_X5_counted (i1 : Int32) (i2 : Int32) (times2 : Nat → Int32) (totals2 : Nat → Int32) (sizes2 : Nat → Int32) : Option (Int32) :=
  Option.bind (f_X5_isLabel i1) fun r_1 =>
  if r_1 = 0 then
    some (-2)
  else
    Option.bind (f_X5_isWord i2) fun r_4 =>
    if r_4 = 0 then
      if i2 = 8 then
        Option.bind (f_X2_wordsIn i1 totals2) fun r_11 =>
        some r_11
      else
        if i2 = 9 then
          Option.bind (f_X2_rowsIn i1 sizes2) fun r_9 =>
          some r_9
        else
          some (-2)
    else
      Option.bind (f_X2_timesIn i1 i2 times2) fun r_13 =>
      some r_13
set_option maxHeartbeats 4000000 in
set_option maxRecDepth 100000 in
theorem c_X5_counted (l : Launch) (D : va_G) (cI cJ : ClassId) (h5 h2 h3 h1 h4 labels2a guesses2a lengths2a words2a times2a totals2a sizes2a : Nat) (labels2 : Nat → Int32) (guesses2 : Nat → Int32) (lengths2 : Nat → Int32) (words2 : Nat → Int32) (times2 : Nat → Int32) (totals2 : Nat → Int32) (sizes2 : Nat → Int32) (rowCount2 : Int32) (addedUp2 : Int32) (addedDown2 : Int32) (i1 : Int32) (i2 : Int32) (ret9 : Int32) (h : f_X5_counted i1 i2 times2 totals2 sizes2 = some ret9) : CI l D cI cJ yX5_counted wsX5_counted 2 42 [.ref h5, .int i1, .int i2] (w5 h5 h2 h3 h1 h4 ++ w2 cI cJ h2 labels2a guesses2a lengths2a words2a times2a totals2a sizes2a labels2 guesses2 lengths2 words2 times2 totals2 sizes2 rowCount2 addedUp2 addedDown2) (w5 h5 h2 h3 h1 h4 ++ w2 cI cJ h2 labels2a guesses2a lengths2a words2a times2a totals2a sizes2a labels2 guesses2 lengths2 words2 times2 totals2 sizes2 rowCount2 addedUp2 addedDown2) ret9 := by
  refine entI (cc := cX5_counted) (maxL := 3) (by decide) rfl (Nat.le_of_ble_eq_true rfl) ?_
  intro p e s m args below meth c ls A Q X hret
  obtain ⟨hx, hb, hml, hts, hown, hK, hA, hP, hD, hS, hl, hnm⟩ := X
  have hown : s.vm.findClass RX5 = some m.cls := hown
  have hl : lv_has ls 3 [(0, .ref h5), (1, .int i1), (2, .int i2)] := hl
  have hw1 : (Cond.fieldLink RX5 10 "CountLearners" "rows" "LCountLearners$LabelledRows;").before args s = true := hts _ (by decide +kernel)
  have hinX5 : ∀ w ∈ wsX50, w ∈ wsX5_counted := by decide +kernel
  unfold f_X5_counted at h
  refine lv_iload_n hx hb dX5_counted_0 rfl (lv_at hl 1 rfl) ?_
  obtain ⟨r_1, hc_2, h⟩ := bd_s h
  refine callPi (As := [.int i1]) (rest := []) ⟨hx, hb, hml, hown, hts⟩ (c_X5_isLabel l D cI cJ i1 r_1 hc_2) (va_cwS 1 hts gX5_counted_X5_isLabel rfl rfl rfl (by decide +kernel) ⟨Nat.le_of_ble_eq_true rfl, Nat.le_of_ble_eq_true rfl⟩) hK hP hD hS hA rfl hl.1 rfl (Nat.le_of_ble_eq_true rfl) dX5_counted_1 ⟨Nat.zero_le _, Nat.zero_le _⟩ (fun H locs hP hD hS => ?_)
  refine lv_if_ne (tgt := 10) hx hb dX5_counted_4 (by decide) (fun c_3 => ?_) (fun c_3 => ?_)
  · have h := it_n c_3 h
    refine lv_iload_n hx hb dX5_counted_10 rfl (lv_at hl 2 rfl) ?_
    obtain ⟨r_4, hc_5, h⟩ := bd_s h
    refine callPi (As := [.int i2]) (rest := []) ⟨hx, hb, hml, hown, hts⟩ (c_X5_isWord l D cI cJ i2 r_4 hc_5) (va_cwS 1 hts gX5_counted_X5_isWord rfl rfl rfl (by decide +kernel) ⟨Nat.le_of_ble_eq_true rfl, Nat.le_of_ble_eq_true rfl⟩) hK hP hD hS hA rfl hl.1 rfl (Nat.le_of_ble_eq_true rfl) dX5_counted_11 ⟨Nat.zero_le _, Nat.zero_le _⟩ (fun H locs hP hD hS => ?_)
    refine lv_if_eq (tgt := 27) hx hb dX5_counted_14 (by decide) (fun c_6 => ?_) (fun c_6 => ?_)
    · have h := it_p c_6 h
      refine lv_iload_n hx hb dX5_counted_27 rfl (lv_at hl 2 rfl) ?_
      refine lv_bipush (v := 8) hx hb dX5_counted_28 (by decide) ?_
      refine lv_icmp_ne (tgt := 42) hx hb dX5_counted_30 (by decide) (fun c_7 => ?_) (fun c_7 => ?_)
      · have h := it_n c_7 h
        refine lv_iload_n hx hb dX5_counted_42 rfl (lv_at hl 2 rfl) ?_
        refine lv_bipush (v := 9) hx hb dX5_counted_43 (by decide) ?_
        refine lv_icmp_ne (tgt := 59) hx hb dX5_counted_45 (by decide) (fun c_8 => ?_) (fun c_8 => ?_)
        · have h := it_n c_8 h
          refine lv_bipush (v := (-2)) hx hb dX5_counted_59 (by decide) ?_
          cases h
          exact hret _ _ _ _ hP hD hS dX5_counted_61
        · have h := it_p c_8 h
          refine lv_aload_n hx hb dX5_counted_48 rfl (lv_at hl 0 rfl) ?_
          refine va_get (D := D) (ci := 4) (v := .ref h2) (C := RX5) (T := TX5) (N := 4) hx hb hts hinX5 hown hK.1 hP 0 rfl rfl 0 (by decide) hw1 (fun _ h9 => h9) rfl dX5_counted_49 ?_
          refine lv_iload_n hx hb dX5_counted_52 rfl (lv_at hl 1 rfl) ?_
          obtain ⟨r_9, hc_10, h⟩ := bd_s h
          refine callVi (As := [.int i1]) (rest := []) (ws2 := (w5 h5 h2 h3 h1 h4 ++ w2 cI cJ h2 labels2a guesses2a lengths2a words2a times2a totals2a sizes2a labels2 guesses2 lengths2 words2 times2 totals2 sizes2 rowCount2 addedUp2 addedDown2)) ⟨hx, hb, hml, hown, hts⟩ (c_X2_rowsIn l D cI cJ h2 labels2a guesses2a lengths2a words2a times2a totals2a sizes2a labels2 guesses2 lengths2 words2 times2 totals2 sizes2 rowCount2 addedUp2 addedDown2 i1 r_9 hc_10) (cwV 1 hts gX5_counted_X2_rowsIn rfl rfl rfl (by decide +kernel) ⟨Nat.le_of_ble_eq_true rfl, Nat.le_of_ble_eq_true rfl⟩) hK hP hD hS hA [1, 2, 3, 4, 5, 6, 7, 8] [0] [0, 1, 2, 3, 4, 5, 6, 7, 8] ⟨[(h5, .inr (4, [.ref h2, .ref h3, .ref h1, .ref h4]))], rfl, rfl, rfl, rfl, by decide, rfl, rfl⟩ 0 1 rfl rfl rfl rfl hl.1 rfl (Nat.le_of_ble_eq_true rfl) dX5_counted_53 ⟨Nat.zero_le _, Nat.zero_le _⟩ (fun H locs hP hD hS => ?_)
          refine lv_goto (tgt := 61) hx hb dX5_counted_56 (by decide) ?_
          cases h
          exact hret _ _ _ _ hP hD hS dX5_counted_61
      · have h := it_p c_7 h
        refine lv_aload_n hx hb dX5_counted_33 rfl (lv_at hl 0 rfl) ?_
        refine va_get (D := D) (ci := 4) (v := .ref h2) (C := RX5) (T := TX5) (N := 4) hx hb hts hinX5 hown hK.1 hP 0 rfl rfl 0 (by decide) hw1 (fun _ h9 => h9) rfl dX5_counted_34 ?_
        refine lv_iload_n hx hb dX5_counted_37 rfl (lv_at hl 1 rfl) ?_
        obtain ⟨r_11, hc_12, h⟩ := bd_s h
        refine callVi (As := [.int i1]) (rest := []) (ws2 := (w5 h5 h2 h3 h1 h4 ++ w2 cI cJ h2 labels2a guesses2a lengths2a words2a times2a totals2a sizes2a labels2 guesses2 lengths2 words2 times2 totals2 sizes2 rowCount2 addedUp2 addedDown2)) ⟨hx, hb, hml, hown, hts⟩ (c_X2_wordsIn l D cI cJ h2 labels2a guesses2a lengths2a words2a times2a totals2a sizes2a labels2 guesses2 lengths2 words2 times2 totals2 sizes2 rowCount2 addedUp2 addedDown2 i1 r_11 hc_12) (cwV 1 hts gX5_counted_X2_wordsIn rfl rfl rfl (by decide +kernel) ⟨Nat.le_of_ble_eq_true rfl, Nat.le_of_ble_eq_true rfl⟩) hK hP hD hS hA [1, 2, 3, 4, 5, 6, 7, 8] [0] [0, 1, 2, 3, 4, 5, 6, 7, 8] ⟨[(h5, .inr (4, [.ref h2, .ref h3, .ref h1, .ref h4]))], rfl, rfl, rfl, rfl, by decide, rfl, rfl⟩ 0 1 rfl rfl rfl rfl hl.1 rfl (Nat.le_of_ble_eq_true rfl) dX5_counted_38 ⟨Nat.zero_le _, Nat.zero_le _⟩ (fun H locs hP hD hS => ?_)
        cases h
        exact hret _ _ _ _ hP hD hS dX5_counted_41
    · have h := it_n c_6 h
      refine lv_aload_n hx hb dX5_counted_17 rfl (lv_at hl 0 rfl) ?_
      refine va_get (D := D) (ci := 4) (v := .ref h2) (C := RX5) (T := TX5) (N := 4) hx hb hts hinX5 hown hK.1 hP 0 rfl rfl 0 (by decide) hw1 (fun _ h9 => h9) rfl dX5_counted_18 ?_
      refine lv_iload_n hx hb dX5_counted_21 rfl (lv_at hl 1 rfl) ?_
      refine lv_iload_n hx hb dX5_counted_22 rfl (lv_at hl 2 rfl) ?_
      obtain ⟨r_13, hc_14, h⟩ := bd_s h
      refine callVi (As := [.int i1, .int i2]) (rest := []) (ws2 := (w5 h5 h2 h3 h1 h4 ++ w2 cI cJ h2 labels2a guesses2a lengths2a words2a times2a totals2a sizes2a labels2 guesses2 lengths2 words2 times2 totals2 sizes2 rowCount2 addedUp2 addedDown2)) ⟨hx, hb, hml, hown, hts⟩ (c_X2_timesIn l D cI cJ h2 labels2a guesses2a lengths2a words2a times2a totals2a sizes2a labels2 guesses2 lengths2 words2 times2 totals2 sizes2 rowCount2 addedUp2 addedDown2 i1 i2 r_13 hc_14) (cwV 2 hts gX5_counted_X2_timesIn rfl rfl rfl (by decide +kernel) ⟨Nat.le_of_ble_eq_true rfl, Nat.le_of_ble_eq_true rfl⟩) hK hP hD hS hA [1, 2, 3, 4, 5, 6, 7, 8] [0] [0, 1, 2, 3, 4, 5, 6, 7, 8] ⟨[(h5, .inr (4, [.ref h2, .ref h3, .ref h1, .ref h4]))], rfl, rfl, rfl, rfl, by decide, rfl, rfl⟩ 0 1 rfl rfl rfl rfl hl.1 rfl (Nat.le_of_ble_eq_true rfl) dX5_counted_23 ⟨Nat.zero_le _, Nat.zero_le _⟩ (fun H locs hP hD hS => ?_)
      cases h
      exact hret _ _ _ _ hP hD hS dX5_counted_26
  · have h := it_p c_3 h
    refine lv_bipush (v := (-2)) hx hb dX5_counted_7 (by decide) ?_
    cases h
    exact hret _ _ _ _ hP hD hS dX5_counted_9
def f_X5_weight (i1 : Int32) (i2 : Int32) (i3 : Int32) (lengths2 : Nat → Int32) (words2 : Nat → Int32) (times2 : Nat → Int32) (totals2 : Nat → Int32) (sizes2 : Nat → Int32) (rowCount2 : Int32) (addedUp2 : Int32) (addedDown2 : Int32) : Option (Int64) :=
  Option.bind (f_X2_has i1 rowCount2) fun r_1 =>
  if r_1 = 0 then
    some (-2)
  else
    Option.bind (f_X5_isLabel i2) fun r_4 =>
    if r_4 = 0 then
      some (-2)
    else
      Option.bind (f_X5_isSide i3) fun r_7 =>
      if r_7 = 0 then
        some (-2)
      else
        Option.bind (f_X2_weightUpper i1 i2 lengths2 words2 times2 sizes2 addedUp2 addedDown2) fun rj_10 =>
        Option.bind (f_X2_weightLower i1 i2 lengths2 totals2 addedUp2 addedDown2) fun rj_12 =>
        Option.bind (f_X0_sideOf rj_10 rj_12 i3) fun rj_14 =>
        some rj_14
set_option maxHeartbeats 4000000 in
set_option maxRecDepth 100000 in
theorem c_X5_weight (l : Launch) (D : va_G) (cI cJ : ClassId) (h5 h2 h3 h1 h4 labels2a guesses2a lengths2a words2a times2a totals2a sizes2a : Nat) (labels2 : Nat → Int32) (guesses2 : Nat → Int32) (lengths2 : Nat → Int32) (words2 : Nat → Int32) (times2 : Nat → Int32) (totals2 : Nat → Int32) (sizes2 : Nat → Int32) (rowCount2 : Int32) (addedUp2 : Int32) (addedDown2 : Int32) (i1 : Int32) (i2 : Int32) (i3 : Int32) (ret9 : Int64) (h : f_X5_weight i1 i2 i3 lengths2 words2 times2 totals2 sizes2 rowCount2 addedUp2 addedDown2 = some ret9) : CL l D cI cJ yX5_weight wsX5_weight 3 69 [.ref h5, .int i1, .int i2, .int i3] (w5 h5 h2 h3 h1 h4 ++ w2 cI cJ h2 labels2a guesses2a lengths2a words2a times2a totals2a sizes2a labels2 guesses2 lengths2 words2 times2 totals2 sizes2 rowCount2 addedUp2 addedDown2) (w5 h5 h2 h3 h1 h4 ++ w2 cI cJ h2 labels2a guesses2a lengths2a words2a times2a totals2a sizes2a labels2 guesses2 lengths2 words2 times2 totals2 sizes2 rowCount2 addedUp2 addedDown2) ret9 := by
  refine entL (cc := cX5_weight) (maxL := 4) (by decide) rfl (Nat.le_of_ble_eq_true rfl) ?_
  intro p e s m args below meth c ls A Q X hret
  obtain ⟨hx, hb, hml, hts, hown, hK, hA, hP, hD, hS, hl, hnm⟩ := X
  have hown : s.vm.findClass RX5 = some m.cls := hown
  have hl : lv_has ls 4 [(0, .ref h5), (1, .int i1), (2, .int i2), (3, .int i3)] := hl
  have hw1 : (Cond.fieldLink RX5 10 "CountLearners" "rows" "LCountLearners$LabelledRows;").before args s = true := hts _ (by decide +kernel)
  have hinX5 : ∀ w ∈ wsX50, w ∈ wsX5_weight := by decide +kernel
  have hw3 : (Cond.constantLong RX5 88 (-2)).before args s = true := hts _ (by decide +kernel)
  unfold f_X5_weight at h
  refine lv_aload_n hx hb dX5_weight_0 rfl (lv_at hl 0 rfl) ?_
  refine va_get (D := D) (ci := 4) (v := .ref h2) (C := RX5) (T := TX5) (N := 4) hx hb hts hinX5 hown hK.1 hP 0 rfl rfl 0 (by decide) hw1 (fun _ h9 => h9) rfl dX5_weight_1 ?_
  refine lv_iload_n hx hb dX5_weight_4 rfl (lv_at hl 1 rfl) ?_
  obtain ⟨r_1, hc_2, h⟩ := bd_s h
  refine callVi (As := [.int i1]) (rest := []) (ws2 := (w5 h5 h2 h3 h1 h4 ++ w2 cI cJ h2 labels2a guesses2a lengths2a words2a times2a totals2a sizes2a labels2 guesses2 lengths2 words2 times2 totals2 sizes2 rowCount2 addedUp2 addedDown2)) ⟨hx, hb, hml, hown, hts⟩ (c_X2_has l D cI cJ h2 labels2a guesses2a lengths2a words2a times2a totals2a sizes2a labels2 guesses2 lengths2 words2 times2 totals2 sizes2 rowCount2 addedUp2 addedDown2 i1 r_1 hc_2) (cwV 1 hts gX5_weight_X2_has rfl rfl rfl (by decide +kernel) ⟨Nat.le_of_ble_eq_true rfl, Nat.le_of_ble_eq_true rfl⟩) hK hP hD hS hA [1, 2, 3, 4, 5, 6, 7, 8] [0] [0, 1, 2, 3, 4, 5, 6, 7, 8] ⟨[(h5, .inr (4, [.ref h2, .ref h3, .ref h1, .ref h4]))], rfl, rfl, rfl, rfl, by decide, rfl, rfl⟩ 0 1 rfl rfl rfl rfl hl.1 rfl (Nat.le_of_ble_eq_true rfl) dX5_weight_5 ⟨Nat.zero_le _, Nat.zero_le _⟩ (fun H locs hP hD hS => ?_)
  refine lv_if_eq (tgt := 25) hx hb dX5_weight_8 (by decide) (fun c_3 => ?_) (fun c_3 => ?_)
  · have h := it_p c_3 h
    refine lv_ldc2 (v := (-2)) hx hb hown hw3 dX5_weight_25 ?_
    cases h
    exact hret _ _ _ _ hP hD hS dX5_weight_28
  · have h := it_n c_3 h
    refine lv_iload_n hx hb dX5_weight_11 rfl (lv_at hl 2 rfl) ?_
    obtain ⟨r_4, hc_5, h⟩ := bd_s h
    refine callPi (As := [.int i2]) (rest := []) ⟨hx, hb, hml, hown, hts⟩ (c_X5_isLabel l D cI cJ i2 r_4 hc_5) (va_cwS 1 hts gX5_weight_X5_isLabel rfl rfl rfl (by decide +kernel) ⟨Nat.le_of_ble_eq_true rfl, Nat.le_of_ble_eq_true rfl⟩) hK hP hD hS hA rfl hl.1 rfl (Nat.le_of_ble_eq_true rfl) dX5_weight_12 ⟨Nat.zero_le _, Nat.zero_le _⟩ (fun H locs hP hD hS => ?_)
    refine lv_if_eq (tgt := 25) hx hb dX5_weight_15 (by decide) (fun c_6 => ?_) (fun c_6 => ?_)
    · have h := it_p c_6 h
      refine lv_ldc2 (v := (-2)) hx hb hown hw3 dX5_weight_25 ?_
      cases h
      exact hret _ _ _ _ hP hD hS dX5_weight_28
    · have h := it_n c_6 h
      refine lv_iload_n hx hb dX5_weight_18 rfl (lv_at hl 3 rfl) ?_
      obtain ⟨r_7, hc_8, h⟩ := bd_s h
      refine callPi (As := [.int i3]) (rest := []) ⟨hx, hb, hml, hown, hts⟩ (c_X5_isSide l D cI cJ i3 r_7 hc_8) (va_cwS 1 hts gX5_weight_X5_isSide rfl rfl rfl (by decide +kernel) ⟨Nat.le_of_ble_eq_true rfl, Nat.le_of_ble_eq_true rfl⟩) hK hP hD hS hA rfl hl.1 rfl (Nat.le_of_ble_eq_true rfl) dX5_weight_19 ⟨Nat.zero_le _, Nat.zero_le _⟩ (fun H locs hP hD hS => ?_)
      refine lv_if_ne (tgt := 29) hx hb dX5_weight_22 (by decide) (fun c_9 => ?_) (fun c_9 => ?_)
      · have h := it_n c_9 h
        refine lv_aload_n hx hb dX5_weight_29 rfl (lv_at hl 0 rfl) ?_
        refine va_get (D := D) (ci := 4) (v := .ref h2) (C := RX5) (T := TX5) (N := 4) hx hb hts hinX5 hown hK.1 hP 0 rfl rfl 0 (by decide) hw1 (fun _ h9 => h9) rfl dX5_weight_30 ?_
        refine lv_iload_n hx hb dX5_weight_33 rfl (lv_at hl 1 rfl) ?_
        refine lv_iload_n hx hb dX5_weight_34 rfl (lv_at hl 2 rfl) ?_
        obtain ⟨rj_10, hc_11, h⟩ := bd_s h
        refine callVl (As := [.int i1, .int i2]) (rest := []) (ws2 := (w5 h5 h2 h3 h1 h4 ++ w2 cI cJ h2 labels2a guesses2a lengths2a words2a times2a totals2a sizes2a labels2 guesses2 lengths2 words2 times2 totals2 sizes2 rowCount2 addedUp2 addedDown2)) ⟨hx, hb, hml, hown, hts⟩ (c_X2_weightUpper l D cI cJ h2 labels2a guesses2a lengths2a words2a times2a totals2a sizes2a labels2 guesses2 lengths2 words2 times2 totals2 sizes2 rowCount2 addedUp2 addedDown2 i1 i2 rj_10 hc_11) (cwV 2 hts gX5_weight_X2_weightUpper rfl rfl rfl (by decide +kernel) ⟨Nat.le_of_ble_eq_true rfl, Nat.le_of_ble_eq_true rfl⟩) hK hP hD hS hA [1, 2, 3, 4, 5, 6, 7, 8] [0] [0, 1, 2, 3, 4, 5, 6, 7, 8] ⟨[(h5, .inr (4, [.ref h2, .ref h3, .ref h1, .ref h4]))], rfl, rfl, rfl, rfl, by decide, rfl, rfl⟩ 0 1 rfl rfl rfl rfl hl.1 rfl (Nat.le_of_ble_eq_true rfl) dX5_weight_35 ⟨Nat.zero_le _, Nat.zero_le _⟩ (fun H locs hP hD hS => ?_)
        refine lv_aload_n hx hb dX5_weight_38 rfl (lv_at hl 0 rfl) ?_
        refine va_get (D := D) (ci := 4) (v := .ref h2) (C := RX5) (T := TX5) (N := 4) hx hb hts hinX5 hown hK.1 hP 0 rfl rfl 0 (by decide) hw1 (fun _ h9 => h9) rfl dX5_weight_39 ?_
        refine lv_iload_n hx hb dX5_weight_42 rfl (lv_at hl 1 rfl) ?_
        refine lv_iload_n hx hb dX5_weight_43 rfl (lv_at hl 2 rfl) ?_
        obtain ⟨rj_12, hc_13, h⟩ := bd_s h
        refine callVl (As := [.int i1, .int i2]) (rest := [.long rj_10]) (ws2 := (w5 h5 h2 h3 h1 h4 ++ w2 cI cJ h2 labels2a guesses2a lengths2a words2a times2a totals2a sizes2a labels2 guesses2 lengths2 words2 times2 totals2 sizes2 rowCount2 addedUp2 addedDown2)) ⟨hx, hb, hml, hown, hts⟩ (c_X2_weightLower l D cI cJ h2 labels2a guesses2a lengths2a words2a times2a totals2a sizes2a labels2 guesses2 lengths2 words2 times2 totals2 sizes2 rowCount2 addedUp2 addedDown2 i1 i2 rj_12 hc_13) (cwV 2 hts gX5_weight_X2_weightLower rfl rfl rfl (by decide +kernel) ⟨Nat.le_of_ble_eq_true rfl, Nat.le_of_ble_eq_true rfl⟩) hK hP hD hS hA [1, 2, 3, 4, 5, 6, 7, 8] [0] [0, 1, 2, 3, 4, 5, 6, 7, 8] ⟨[(h5, .inr (4, [.ref h2, .ref h3, .ref h1, .ref h4]))], rfl, rfl, rfl, rfl, by decide, rfl, rfl⟩ 0 1 rfl rfl rfl rfl hl.1 rfl (Nat.le_of_ble_eq_true rfl) dX5_weight_44 ⟨Nat.zero_le _, Nat.zero_le _⟩ (fun H locs hP hD hS => ?_)
        refine lv_iload_n hx hb dX5_weight_47 rfl (lv_at hl 3 rfl) ?_
        obtain ⟨rj_14, hc_15, h⟩ := bd_s h
        refine callPl (As := [.long rj_10, .long rj_12, .int i3]) (rest := []) ⟨hx, hb, hml, hown, hts⟩ (c_X0_sideOf l D cI cJ rj_10 rj_12 i3 rj_14 hc_15) (va_cwS 3 hts gX5_weight_X0_sideOf rfl rfl rfl (by decide +kernel) ⟨Nat.le_of_ble_eq_true rfl, Nat.le_of_ble_eq_true rfl⟩) hK hP hD hS hA rfl hl.1 rfl (Nat.le_of_ble_eq_true rfl) dX5_weight_48 ⟨Nat.zero_le _, Nat.zero_le _⟩ (fun H locs hP hD hS => ?_)
        cases h
        exact hret _ _ _ _ hP hD hS dX5_weight_51
      · have h := it_p c_9 h
        refine lv_ldc2 (v := (-2)) hx hb hown hw3 dX5_weight_25 ?_
        cases h
        exact hret _ _ _ _ hP hD hS dX5_weight_28
def f_X5_best (i1 : Int32) (lengths2 : Nat → Int32) (words2 : Nat → Int32) (times2 : Nat → Int32) (totals2 : Nat → Int32) (sizes2 : Nat → Int32) (rowCount2 : Int32) (addedUp2 : Int32) (addedDown2 : Int32) : Option (Int32) :=
  Option.bind (f_X2_has i1 rowCount2) fun r_1 =>
  if r_1 = 0 then
    some (-2)
  else
    Option.bind (f_X2_bestLabel i1 lengths2 words2 times2 totals2 sizes2 addedUp2 addedDown2) fun r_4 =>
    some r_4
set_option maxHeartbeats 4000000 in
set_option maxRecDepth 100000 in
theorem c_X5_best (l : Launch) (D : va_G) (cI cJ : ClassId) (h5 h2 h3 h1 h4 labels2a guesses2a lengths2a words2a times2a totals2a sizes2a : Nat) (labels2 : Nat → Int32) (guesses2 : Nat → Int32) (lengths2 : Nat → Int32) (words2 : Nat → Int32) (times2 : Nat → Int32) (totals2 : Nat → Int32) (sizes2 : Nat → Int32) (rowCount2 : Int32) (addedUp2 : Int32) (addedDown2 : Int32) (i1 : Int32) (ret9 : Int32) (h : f_X5_best i1 lengths2 words2 times2 totals2 sizes2 rowCount2 addedUp2 addedDown2 = some ret9) : CI l D cI cJ yX5_best wsX5_best 4 100 [.ref h5, .int i1] (w5 h5 h2 h3 h1 h4 ++ w2 cI cJ h2 labels2a guesses2a lengths2a words2a times2a totals2a sizes2a labels2 guesses2 lengths2 words2 times2 totals2 sizes2 rowCount2 addedUp2 addedDown2) (w5 h5 h2 h3 h1 h4 ++ w2 cI cJ h2 labels2a guesses2a lengths2a words2a times2a totals2a sizes2a labels2 guesses2 lengths2 words2 times2 totals2 sizes2 rowCount2 addedUp2 addedDown2) ret9 := by
  refine entI (cc := cX5_best) (maxL := 2) (by decide) rfl (Nat.le_of_ble_eq_true rfl) ?_
  intro p e s m args below meth c ls A Q X hret
  obtain ⟨hx, hb, hml, hts, hown, hK, hA, hP, hD, hS, hl, hnm⟩ := X
  have hown : s.vm.findClass RX5 = some m.cls := hown
  have hl : lv_has ls 2 [(0, .ref h5), (1, .int i1)] := hl
  have hw1 : (Cond.fieldLink RX5 10 "CountLearners" "rows" "LCountLearners$LabelledRows;").before args s = true := hts _ (by decide +kernel)
  have hinX5 : ∀ w ∈ wsX50, w ∈ wsX5_best := by decide +kernel
  unfold f_X5_best at h
  refine lv_aload_n hx hb dX5_best_0 rfl (lv_at hl 0 rfl) ?_
  refine va_get (D := D) (ci := 4) (v := .ref h2) (C := RX5) (T := TX5) (N := 4) hx hb hts hinX5 hown hK.1 hP 0 rfl rfl 0 (by decide) hw1 (fun _ h9 => h9) rfl dX5_best_1 ?_
  refine lv_iload_n hx hb dX5_best_4 rfl (lv_at hl 1 rfl) ?_
  obtain ⟨r_1, hc_2, h⟩ := bd_s h
  refine callVi (As := [.int i1]) (rest := []) (ws2 := (w5 h5 h2 h3 h1 h4 ++ w2 cI cJ h2 labels2a guesses2a lengths2a words2a times2a totals2a sizes2a labels2 guesses2 lengths2 words2 times2 totals2 sizes2 rowCount2 addedUp2 addedDown2)) ⟨hx, hb, hml, hown, hts⟩ (c_X2_has l D cI cJ h2 labels2a guesses2a lengths2a words2a times2a totals2a sizes2a labels2 guesses2 lengths2 words2 times2 totals2 sizes2 rowCount2 addedUp2 addedDown2 i1 r_1 hc_2) (cwV 1 hts gX5_best_X2_has rfl rfl rfl (by decide +kernel) ⟨Nat.le_of_ble_eq_true rfl, Nat.le_of_ble_eq_true rfl⟩) hK hP hD hS hA [1, 2, 3, 4, 5, 6, 7, 8] [0] [0, 1, 2, 3, 4, 5, 6, 7, 8] ⟨[(h5, .inr (4, [.ref h2, .ref h3, .ref h1, .ref h4]))], rfl, rfl, rfl, rfl, by decide, rfl, rfl⟩ 0 1 rfl rfl rfl rfl hl.1 rfl (Nat.le_of_ble_eq_true rfl) dX5_best_5 ⟨Nat.zero_le _, Nat.zero_le _⟩ (fun H locs hP hD hS => ?_)
  refine lv_if_eq (tgt := 22) hx hb dX5_best_8 (by decide) (fun c_3 => ?_) (fun c_3 => ?_)
  · have h := it_p c_3 h
    refine lv_bipush (v := (-2)) hx hb dX5_best_22 (by decide) ?_
    cases h
    exact hret _ _ _ _ hP hD hS dX5_best_24
  · have h := it_n c_3 h
    refine lv_aload_n hx hb dX5_best_11 rfl (lv_at hl 0 rfl) ?_
    refine va_get (D := D) (ci := 4) (v := .ref h2) (C := RX5) (T := TX5) (N := 4) hx hb hts hinX5 hown hK.1 hP 0 rfl rfl 0 (by decide) hw1 (fun _ h9 => h9) rfl dX5_best_12 ?_
    refine lv_iload_n hx hb dX5_best_15 rfl (lv_at hl 1 rfl) ?_
    obtain ⟨r_4, hc_5, h⟩ := bd_s h
    refine callVi (As := [.int i1]) (rest := []) (ws2 := (w5 h5 h2 h3 h1 h4 ++ w2 cI cJ h2 labels2a guesses2a lengths2a words2a times2a totals2a sizes2a labels2 guesses2 lengths2 words2 times2 totals2 sizes2 rowCount2 addedUp2 addedDown2)) ⟨hx, hb, hml, hown, hts⟩ (c_X2_bestLabel l D cI cJ h2 labels2a guesses2a lengths2a words2a times2a totals2a sizes2a labels2 guesses2 lengths2 words2 times2 totals2 sizes2 rowCount2 addedUp2 addedDown2 i1 r_4 hc_5) (cwV 1 hts gX5_best_X2_bestLabel rfl rfl rfl (by decide +kernel) ⟨Nat.le_of_ble_eq_true rfl, Nat.le_of_ble_eq_true rfl⟩) hK hP hD hS hA [1, 2, 3, 4, 5, 6, 7, 8] [0] [0, 1, 2, 3, 4, 5, 6, 7, 8] ⟨[(h5, .inr (4, [.ref h2, .ref h3, .ref h1, .ref h4]))], rfl, rfl, rfl, rfl, by decide, rfl, rfl⟩ 0 1 rfl rfl rfl rfl hl.1 rfl (Nat.le_of_ble_eq_true rfl) dX5_best_16 ⟨Nat.zero_le _, Nat.zero_le _⟩ (fun H locs hP hD hS => ?_)
    refine lv_goto (tgt := 24) hx hb dX5_best_19 (by decide) ?_
    cases h
    exact hret _ _ _ _ hP hD hS dX5_best_24
def f_X5_rounds_L17 (i1 : Int32) (labels2 : Nat → Int32) (lengths2 : Nat → Int32) (words2 : Nat → Int32) (rowCount2 : Int32) (addedUp2 : Int32) (addedDown2 : Int32) : Nat → Int32 → Int32 → (Nat → Int32) → (Nat → Int32) → (Nat → Int32) → (Nat → Int32) → Option (Int32 × Int32 × (Nat → Int32) × (Nat → Int32) × (Nat → Int32) × (Nat → Int32))
  | 0, _, _, _, _, _, _ => none
  | n + 1, y3_6, y2_7, guesses2_8, times2_9, totals2_10, sizes2_11 =>
  if y3_6 = 0 then
    some (y3_6, y2_7, guesses2_8, times2_9, totals2_10, sizes2_11)
  else
    if i1 ≤ y2_7 then
      some (y3_6, y2_7, guesses2_8, times2_9, totals2_10, sizes2_11)
    else
      Option.bind (f_X2_guessAnew labels2 guesses2_8 lengths2 words2 times2_9 totals2_10 sizes2_11 rowCount2 addedUp2 addedDown2) fun (r_20, guesses2_21, times2_22, totals2_23, sizes2_24) =>
      nm (α := Int32) (r_20) fun x3_26 =>
      nm (α := Int32) (y2_7 + 1) fun x2_27 =>
      f_X5_rounds_L17 i1 labels2 lengths2 words2 rowCount2 addedUp2 addedDown2 n x3_26 x2_27 guesses2_21 times2_22 totals2_23 sizes2_24
def f_X5_rounds (i1 : Int32) (labels2 : Nat → Int32) (guesses2 : Nat → Int32) (lengths2 : Nat → Int32) (words2 : Nat → Int32) (times2 : Nat → Int32) (totals2 : Nat → Int32) (sizes2 : Nat → Int32) (rowCount2 : Int32) (addedUp2 : Int32) (addedDown2 : Int32) : Option (Int32 × (Nat → Int32) × (Nat → Int32) × (Nat → Int32) × (Nat → Int32)) :=
  Option.bind (f_X5_isWithin i1 1 20) fun r_1 =>
  if r_1 = 0 then
    some ((-2), guesses2, times2, totals2, sizes2)
  else
    nm (α := Int32) (0) fun x2_4 =>
    nm (α := Int32) (1) fun x3_5 =>
    Option.bind (f_X5_rounds_L17 i1 labels2 lengths2 words2 rowCount2 addedUp2 addedDown2 FU x3_5 x2_4 guesses2 times2 totals2 sizes2) fun (z3_28, z2_29, guesses2_30, times2_31, totals2_32, sizes2_33) =>
    some (z2_29, guesses2_30, times2_31, totals2_32, sizes2_33)
set_option maxHeartbeats 4000000 in
set_option maxRecDepth 100000 in
theorem c_X5_rounds (l : Launch) (D : va_G) (cI cJ : ClassId) (h5 h2 h3 h1 h4 labels2a guesses2a lengths2a words2a times2a totals2a sizes2a : Nat) (labels2 : Nat → Int32) (guesses2 : Nat → Int32) (lengths2 : Nat → Int32) (words2 : Nat → Int32) (times2 : Nat → Int32) (totals2 : Nat → Int32) (sizes2 : Nat → Int32) (rowCount2 : Int32) (addedUp2 : Int32) (addedDown2 : Int32) (i1 : Int32) (ret9 : Int32) (guesses2z : Nat → Int32) (times2z : Nat → Int32) (totals2z : Nat → Int32) (sizes2z : Nat → Int32) (h : f_X5_rounds i1 labels2 guesses2 lengths2 words2 times2 totals2 sizes2 rowCount2 addedUp2 addedDown2 = some (ret9, guesses2z, times2z, totals2z, sizes2z)) : CI l D cI cJ yX5_rounds wsX5_rounds 5 123 [.ref h5, .int i1] (w5 h5 h2 h3 h1 h4 ++ w2 cI cJ h2 labels2a guesses2a lengths2a words2a times2a totals2a sizes2a labels2 guesses2 lengths2 words2 times2 totals2 sizes2 rowCount2 addedUp2 addedDown2) (w5 h5 h2 h3 h1 h4 ++ w2 cI cJ h2 labels2a guesses2a lengths2a words2a times2a totals2a sizes2a labels2 guesses2z lengths2 words2 times2z totals2z sizes2z rowCount2 addedUp2 addedDown2) ret9 := by
  refine entI (cc := cX5_rounds) (maxL := 4) (by decide) rfl (Nat.le_of_ble_eq_true rfl) ?_
  intro p e s m args below meth c ls A Q X hret
  obtain ⟨hx, hb, hml, hts, hown, hK, hA, hP, hD, hS, hl, hnm⟩ := X
  have hown : s.vm.findClass RX5 = some m.cls := hown
  have hl : lv_has ls 4 [(0, .ref h5), (1, .int i1)] := hl
  have hw1 : (Cond.fieldLink RX5 10 "CountLearners" "rows" "LCountLearners$LabelledRows;").before args s = true := hts _ (by decide +kernel)
  have hinX5 : ∀ w ∈ wsX50, w ∈ wsX5_rounds := by decide +kernel
  unfold f_X5_rounds at h
  refine lv_iload_n hx hb dX5_rounds_0 rfl (lv_at hl 1 rfl) ?_
  refine lv_iconst (v := 1) hx hb dX5_rounds_1 (by decide) ?_
  refine lv_bipush (v := 20) hx hb dX5_rounds_2 (by decide) ?_
  obtain ⟨r_1, hc_2, h⟩ := bd_s h
  refine callPi (As := [.int i1, .int 1, .int 20]) (rest := []) ⟨hx, hb, hml, hown, hts⟩ (c_X5_isWithin l D cI cJ i1 1 20 r_1 hc_2) (va_cwS 3 hts gX5_rounds_X5_isWithin rfl rfl rfl (by decide +kernel) ⟨Nat.le_of_ble_eq_true rfl, Nat.le_of_ble_eq_true rfl⟩) hK hP hD hS hA rfl hl.1 rfl (Nat.le_of_ble_eq_true rfl) dX5_rounds_4 ⟨Nat.zero_le _, Nat.zero_le _⟩ (fun H locs hP hD hS => ?_)
  refine lv_if_ne (tgt := 13) hx hb dX5_rounds_7 (by decide) (fun c_3 => ?_) (fun c_3 => ?_)
  · have h := it_n c_3 h
    refine lv_iconst (v := 0) hx hb dX5_rounds_13 (by decide) ?_
    refine lv_topi (fun x2_4 ex2_4 => ?_)
    have h := nm_s h x2_4 ex2_4
    refine lv_istore_n (lv' := [(2, .int x2_4), (0, .ref h5), (1, .int i1)]) hx hb dX5_rounds_14 rfl hl (by decide) rfl (fun ls hl => ?_)
    refine lv_iconst (v := 1) hx hb dX5_rounds_15 (by decide) ?_
    refine lv_topi (fun x3_5 ex3_5 => ?_)
    have h := nm_s h x3_5 ex3_5
    refine lv_istore_n (lv' := [(3, .int x3_5), (2, .int x2_4), (0, .ref h5), (1, .int i1)]) hx hb dX5_rounds_16 rfl hl (by decide) rfl (fun ls hl => ?_)
    have L17 : ∀ (n : Nat) (y3_6 : Int32) (y2_7 : Int32) (guesses2_8 : Nat → Int32) (times2_9 : Nat → Int32) (totals2_10 : Nat → Int32) (sizes2_11 : Nat → Int32) (z3_12 : Int32) (z2_13 : Int32) (guesses2_14 : Nat → Int32) (times2_15 : Nat → Int32) (totals2_16 : Nat → Int32) (sizes2_17 : Nat → Int32), f_X5_rounds_L17 i1 labels2 lengths2 words2 rowCount2 addedUp2 addedDown2 n y3_6 y2_7 guesses2_8 times2_9 totals2_10 sizes2_11 = some (z3_12, z2_13, guesses2_14, times2_15, totals2_16, sizes2_17) → ∀ (H : Heap) (locs : List Loc) (ls : Array Slot), va_P D vwK (w5 h5 h2 h3 h1 h4 ++ w2 cI cJ h2 labels2a guesses2a lengths2a words2a times2a totals2a sizes2a labels2 guesses2_8 lengths2 words2 times2_9 totals2_10 sizes2_11 rowCount2 addedUp2 addedDown2) H → va_D A (w5 h5 h2 h3 h1 h4 ++ w2 cI cJ h2 labels2a guesses2a lengths2a words2a times2a totals2a sizes2a labels2 guesses2_8 lengths2 words2 times2_9 totals2_10 sizes2_11 rowCount2 addedUp2 addedDown2) → va_S A s.heap H locs → lv_has ls 4 [(3, .int y3_6), (2, .int y2_7), (0, .ref h5), (1, .int i1)] → (∀ (H : Heap) (locs : List Loc) (ls : Array Slot), va_P D vwK (w5 h5 h2 h3 h1 h4 ++ w2 cI cJ h2 labels2a guesses2a lengths2a words2a times2a totals2a sizes2a labels2 guesses2_14 lengths2 words2 times2_15 totals2_16 sizes2_17 rowCount2 addedUp2 addedDown2) H → va_D A (w5 h5 h2 h3 h1 h4 ++ w2 cI cJ h2 labels2a guesses2a lengths2a words2a times2a totals2a sizes2a labels2 guesses2_14 lengths2 words2 times2_15 totals2_16 sizes2_17 rowCount2 addedUp2 addedDown2) → va_S A s.heap H locs → lv_has ls 4 [(2, .int z2_13)] → W p l e (rmOf 5 123) s m args below meth c H locs 0 0 Q (F0 m 40 ls [])) → W p l e (rmOf 5 123) s m args below meth c H locs 0 0 Q (F0 m 17 ls []) := by
      intro n
      induction n with
      | zero => intro y3_6 y2_7 guesses2_8 times2_9 totals2_10 sizes2_11 z3_12 z2_13 guesses2_14 times2_15 totals2_16 sizes2_17 h; rw [f_X5_rounds_L17.eq_1] at h; cases h
      | succ n ih =>
        intro y3_6 y2_7 guesses2_8 times2_9 totals2_10 sizes2_11 z3_12 z2_13 guesses2_14 times2_15 totals2_16 sizes2_17 h H locs ls hP hD hS hl K
        rw [f_X5_rounds_L17.eq_2] at h
        refine lv_iload_n hx hb dX5_rounds_17 rfl (lv_at hl 0 rfl) ?_
        refine lv_if_eq (tgt := 40) hx hb dX5_rounds_18 (by decide) (fun c_18 => ?_) (fun c_18 => ?_)
        · have h := it_p c_18 h
          cases h
          exact K _ _ _ hP hD hS (lv_sub hl [1] rfl)
        · have h := it_n c_18 h
          refine lv_iload_n hx hb dX5_rounds_21 rfl (lv_at hl 1 rfl) ?_
          refine lv_iload_n hx hb dX5_rounds_22 rfl (lv_at hl 3 rfl) ?_
          refine lv_icmp_ge (tgt := 40) hx hb dX5_rounds_23 (by decide) (fun c_19 => ?_) (fun c_19 => ?_)
          · have h := it_p c_19 h
            cases h
            exact K _ _ _ hP hD hS (lv_sub hl [1] rfl)
          · have h := it_n c_19 h
            refine lv_aload_n hx hb dX5_rounds_26 rfl (lv_at hl 2 rfl) ?_
            refine va_get (D := D) (ci := 4) (v := .ref h2) (C := RX5) (T := TX5) (N := 4) hx hb hts hinX5 hown hK.1 hP 0 rfl rfl 0 (by decide) hw1 (fun _ h9 => h9) rfl dX5_rounds_27 ?_
            obtain ⟨⟨r_20, guesses2_21, times2_22, totals2_23, sizes2_24⟩, hc_25, h⟩ := bd_s h
            refine callVi (As := []) (rest := []) (ws2 := (w5 h5 h2 h3 h1 h4 ++ w2 cI cJ h2 labels2a guesses2a lengths2a words2a times2a totals2a sizes2a labels2 guesses2_21 lengths2 words2 times2_22 totals2_23 sizes2_24 rowCount2 addedUp2 addedDown2)) ⟨hx, hb, hml, hown, hts⟩ (c_X2_guessAnew l D cI cJ h2 labels2a guesses2a lengths2a words2a times2a totals2a sizes2a labels2 guesses2_8 lengths2 words2 times2_9 totals2_10 sizes2_11 rowCount2 addedUp2 addedDown2 r_20 guesses2_21 times2_22 totals2_23 sizes2_24 hc_25) (cwV 0 hts gX5_rounds_X2_guessAnew rfl rfl rfl (by decide +kernel) ⟨Nat.le_of_ble_eq_true rfl, Nat.le_of_ble_eq_true rfl⟩) hK hP hD hS hA [1, 2, 3, 4, 5, 6, 7, 8] [0] [0, 1, 2, 3, 4, 5, 6, 7, 8] ⟨[(h5, .inr (4, [.ref h2, .ref h3, .ref h1, .ref h4]))], rfl, rfl, rfl, rfl, by decide, rfl, rfl⟩ 0 1 rfl rfl rfl rfl hl.1 rfl (Nat.le_of_ble_eq_true rfl) dX5_rounds_30 ⟨Nat.zero_le _, Nat.zero_le _⟩ (fun H locs hP hD hS => ?_)
            refine lv_topi (fun x3_26 ex3_26 => ?_)
            have h := nm_s h x3_26 ex3_26
            refine lv_istore_n (lv' := [(3, .int x3_26), (2, .int y2_7), (0, .ref h5), (1, .int i1)]) hx hb dX5_rounds_33 rfl hl (by decide) rfl (fun ls hl => ?_)
            obtain ⟨x2_27, ex2_27⟩ : ∃ z : Int32, z = y2_7 + 1 := ⟨_, rfl⟩
            have h := nm_s h x2_27 ex2_27
            refine lv_iinc (v := x2_27) (lv' := [(2, .int x2_27), (3, .int x3_26), (0, .ref h5), (1, .int i1)]) hx hb dX5_rounds_34 hl (k := 1) rfl (by rw [ex2_27]; rfl) (by decide) rfl (fun ls hl => ?_)
            refine lv_goto (tgt := 17) hx hb dX5_rounds_37 (by decide) ?_
            exact ih _ _ _ _ _ _ _ _ _ _ _ _ h _ _ _ hP hD hS (lv_sub hl [1, 0, 2, 3] rfl) K
    obtain ⟨⟨z3_28, z2_29, guesses2_30, times2_31, totals2_32, sizes2_33⟩, hl_34, h⟩ := bd_s h
    refine L17 FU x3_5 x2_4 guesses2 times2 totals2 sizes2 _ _ _ _ _ _ hl_34 _ _ _ hP hD hS (lv_sub hl [0, 1, 2, 3] rfl) (fun H locs ls hP hD hS hl => ?_)
    refine lv_iload_n hx hb dX5_rounds_40 rfl (lv_at hl 0 rfl) ?_
    cases h
    exact hret _ _ _ _ hP hD hS dX5_rounds_41
  · have h := it_p c_3 h
    refine lv_bipush (v := (-2)) hx hb dX5_rounds_10 (by decide) ?_
    cases h
    exact hret _ _ _ _ hP hD hS dX5_rounds_12
def f_X5_guess (i1 : Int32) (guesses2 : Nat → Int32) (rowCount2 : Int32) : Option (Int32) :=
  Option.bind (f_X2_has i1 rowCount2) fun r_1 =>
  if r_1 = 0 then
    some (-2)
  else
    Option.bind (f_X2_guessOf i1 guesses2) fun r_4 =>
    some r_4
set_option maxHeartbeats 4000000 in
set_option maxRecDepth 100000 in
theorem c_X5_guess (l : Launch) (D : va_G) (cI cJ : ClassId) (h5 h2 h3 h1 h4 labels2a guesses2a lengths2a words2a times2a totals2a sizes2a : Nat) (labels2 : Nat → Int32) (guesses2 : Nat → Int32) (lengths2 : Nat → Int32) (words2 : Nat → Int32) (times2 : Nat → Int32) (totals2 : Nat → Int32) (sizes2 : Nat → Int32) (rowCount2 : Int32) (addedUp2 : Int32) (addedDown2 : Int32) (i1 : Int32) (ret9 : Int32) (h : f_X5_guess i1 guesses2 rowCount2 = some ret9) : CI l D cI cJ yX5_guess wsX5_guess 1 21 [.ref h5, .int i1] (w5 h5 h2 h3 h1 h4 ++ w2 cI cJ h2 labels2a guesses2a lengths2a words2a times2a totals2a sizes2a labels2 guesses2 lengths2 words2 times2 totals2 sizes2 rowCount2 addedUp2 addedDown2) (w5 h5 h2 h3 h1 h4 ++ w2 cI cJ h2 labels2a guesses2a lengths2a words2a times2a totals2a sizes2a labels2 guesses2 lengths2 words2 times2 totals2 sizes2 rowCount2 addedUp2 addedDown2) ret9 := by
  refine entI (cc := cX5_guess) (maxL := 2) (by decide) rfl (Nat.le_of_ble_eq_true rfl) ?_
  intro p e s m args below meth c ls A Q X hret
  obtain ⟨hx, hb, hml, hts, hown, hK, hA, hP, hD, hS, hl, hnm⟩ := X
  have hown : s.vm.findClass RX5 = some m.cls := hown
  have hl : lv_has ls 2 [(0, .ref h5), (1, .int i1)] := hl
  have hw1 : (Cond.fieldLink RX5 10 "CountLearners" "rows" "LCountLearners$LabelledRows;").before args s = true := hts _ (by decide +kernel)
  have hinX5 : ∀ w ∈ wsX50, w ∈ wsX5_guess := by decide +kernel
  unfold f_X5_guess at h
  refine lv_aload_n hx hb dX5_guess_0 rfl (lv_at hl 0 rfl) ?_
  refine va_get (D := D) (ci := 4) (v := .ref h2) (C := RX5) (T := TX5) (N := 4) hx hb hts hinX5 hown hK.1 hP 0 rfl rfl 0 (by decide) hw1 (fun _ h9 => h9) rfl dX5_guess_1 ?_
  refine lv_iload_n hx hb dX5_guess_4 rfl (lv_at hl 1 rfl) ?_
  obtain ⟨r_1, hc_2, h⟩ := bd_s h
  refine callVi (As := [.int i1]) (rest := []) (ws2 := (w5 h5 h2 h3 h1 h4 ++ w2 cI cJ h2 labels2a guesses2a lengths2a words2a times2a totals2a sizes2a labels2 guesses2 lengths2 words2 times2 totals2 sizes2 rowCount2 addedUp2 addedDown2)) ⟨hx, hb, hml, hown, hts⟩ (c_X2_has l D cI cJ h2 labels2a guesses2a lengths2a words2a times2a totals2a sizes2a labels2 guesses2 lengths2 words2 times2 totals2 sizes2 rowCount2 addedUp2 addedDown2 i1 r_1 hc_2) (cwV 1 hts gX5_guess_X2_has rfl rfl rfl (by decide +kernel) ⟨Nat.le_of_ble_eq_true rfl, Nat.le_of_ble_eq_true rfl⟩) hK hP hD hS hA [1, 2, 3, 4, 5, 6, 7, 8] [0] [0, 1, 2, 3, 4, 5, 6, 7, 8] ⟨[(h5, .inr (4, [.ref h2, .ref h3, .ref h1, .ref h4]))], rfl, rfl, rfl, rfl, by decide, rfl, rfl⟩ 0 1 rfl rfl rfl rfl hl.1 rfl (Nat.le_of_ble_eq_true rfl) dX5_guess_5 ⟨Nat.zero_le _, Nat.zero_le _⟩ (fun H locs hP hD hS => ?_)
  refine lv_if_eq (tgt := 22) hx hb dX5_guess_8 (by decide) (fun c_3 => ?_) (fun c_3 => ?_)
  · have h := it_p c_3 h
    refine lv_bipush (v := (-2)) hx hb dX5_guess_22 (by decide) ?_
    cases h
    exact hret _ _ _ _ hP hD hS dX5_guess_24
  · have h := it_n c_3 h
    refine lv_aload_n hx hb dX5_guess_11 rfl (lv_at hl 0 rfl) ?_
    refine va_get (D := D) (ci := 4) (v := .ref h2) (C := RX5) (T := TX5) (N := 4) hx hb hts hinX5 hown hK.1 hP 0 rfl rfl 0 (by decide) hw1 (fun _ h9 => h9) rfl dX5_guess_12 ?_
    refine lv_iload_n hx hb dX5_guess_15 rfl (lv_at hl 1 rfl) ?_
    obtain ⟨r_4, hc_5, h⟩ := bd_s h
    refine callVi (As := [.int i1]) (rest := []) (ws2 := (w5 h5 h2 h3 h1 h4 ++ w2 cI cJ h2 labels2a guesses2a lengths2a words2a times2a totals2a sizes2a labels2 guesses2 lengths2 words2 times2 totals2 sizes2 rowCount2 addedUp2 addedDown2)) ⟨hx, hb, hml, hown, hts⟩ (c_X2_guessOf l D cI cJ h2 labels2a guesses2a lengths2a words2a times2a totals2a sizes2a labels2 guesses2 lengths2 words2 times2 totals2 sizes2 rowCount2 addedUp2 addedDown2 i1 r_4 hc_5) (cwV 1 hts gX5_guess_X2_guessOf rfl rfl rfl (by decide +kernel) ⟨Nat.le_of_ble_eq_true rfl, Nat.le_of_ble_eq_true rfl⟩) hK hP hD hS hA [1, 2, 3, 4, 5, 6, 7, 8] [0] [0, 1, 2, 3, 4, 5, 6, 7, 8] ⟨[(h5, .inr (4, [.ref h2, .ref h3, .ref h1, .ref h4]))], rfl, rfl, rfl, rfl, by decide, rfl, rfl⟩ 0 1 rfl rfl rfl rfl hl.1 rfl (Nat.le_of_ble_eq_true rfl) dX5_guess_16 ⟨Nat.zero_le _, Nat.zero_le _⟩ (fun H locs hP hD hS => ?_)
    refine lv_goto (tgt := 24) hx hb dX5_guess_19 (by decide) ?_
    cases h
    exact hret _ _ _ _ hP hD hS dX5_guess_24
def f_X5_text (i1 : Int32) (text3 : Nat → Int32) (textLength3 : Int32) : Option (Int32 × (Nat → Int32) × Int32) :=
  Option.bind (f_X5_isWord i1) fun r_1 =>
  if r_1 = 0 then
    some ((-2), text3, textLength3)
  else
    Option.bind (f_X3_isFull textLength3) fun r_4 =>
    if r_4 = 0 then
      Option.bind (f_X3_append i1 text3 textLength3) fun (r_7, text3_8, textLength3_9) =>
      some (r_7, text3_8, textLength3_9)
    else
      some ((-3), text3, textLength3)
set_option maxHeartbeats 4000000 in
set_option maxRecDepth 100000 in
theorem c_X5_text (l : Launch) (D : va_G) (cI cJ : ClassId) (h5 h2 h3 h1 h4 text3a behind3a uppers3a : Nat) (text3 : Nat → Int32) (behind3 : Nat → Int32) (uppers3 : Nat → Int64) (lower3 : Int64) (textLength3 : Int32) (i1 : Int32) (ret9 : Int32) (text3z : Nat → Int32) (textLength3z : Int32) (h : f_X5_text i1 text3 textLength3 = some (ret9, text3z, textLength3z)) : CI l D cI cJ yX5_text wsX5_text 2 42 [.ref h5, .int i1] (w5 h5 h2 h3 h1 h4 ++ w3 cI cJ h3 text3a behind3a uppers3a text3 behind3 uppers3 lower3 textLength3) (w5 h5 h2 h3 h1 h4 ++ w3 cI cJ h3 text3a behind3a uppers3a text3z behind3 uppers3 lower3 textLength3z) ret9 := by
  refine entI (cc := cX5_text) (maxL := 2) (by decide) rfl (Nat.le_of_ble_eq_true rfl) ?_
  intro p e s m args below meth c ls A Q X hret
  obtain ⟨hx, hb, hml, hts, hown, hK, hA, hP, hD, hS, hl, hnm⟩ := X
  have hown : s.vm.findClass RX5 = some m.cls := hown
  have hl : lv_has ls 2 [(0, .ref h5), (1, .int i1)] := hl
  have hw1 : (Cond.fieldLink RX5 19 "CountLearners" "tables" "LCountLearners$TextTables;").before args s = true := hts _ (by decide +kernel)
  have hinX5 : ∀ w ∈ wsX50, w ∈ wsX5_text := by decide +kernel
  unfold f_X5_text at h
  refine lv_iload_n hx hb dX5_text_0 rfl (lv_at hl 1 rfl) ?_
  obtain ⟨r_1, hc_2, h⟩ := bd_s h
  refine callPi (As := [.int i1]) (rest := []) ⟨hx, hb, hml, hown, hts⟩ (c_X5_isWord l D cI cJ i1 r_1 hc_2) (va_cwS 1 hts gX5_text_X5_isWord rfl rfl rfl (by decide +kernel) ⟨Nat.le_of_ble_eq_true rfl, Nat.le_of_ble_eq_true rfl⟩) hK hP hD hS hA rfl hl.1 rfl (Nat.le_of_ble_eq_true rfl) dX5_text_1 ⟨Nat.zero_le _, Nat.zero_le _⟩ (fun H locs hP hD hS => ?_)
  refine lv_if_ne (tgt := 10) hx hb dX5_text_4 (by decide) (fun c_3 => ?_) (fun c_3 => ?_)
  · have h := it_n c_3 h
    refine lv_aload_n hx hb dX5_text_10 rfl (lv_at hl 0 rfl) ?_
    refine va_get (D := D) (ci := 4) (v := .ref h3) (C := RX5) (T := TX5) (N := 4) hx hb hts hinX5 hown hK.1 hP 0 rfl rfl 1 (by decide) hw1 (fun _ h9 => h9) rfl dX5_text_11 ?_
    obtain ⟨r_4, hc_5, h⟩ := bd_s h
    refine callVi (As := []) (rest := []) (ws2 := (w5 h5 h2 h3 h1 h4 ++ w3 cI cJ h3 text3a behind3a uppers3a text3 behind3 uppers3 lower3 textLength3)) ⟨hx, hb, hml, hown, hts⟩ (c_X3_isFull l D cI cJ h3 text3a behind3a uppers3a text3 behind3 uppers3 lower3 textLength3 r_4 hc_5) (cwV 0 hts gX5_text_X3_isFull rfl rfl rfl (by decide +kernel) ⟨Nat.le_of_ble_eq_true rfl, Nat.le_of_ble_eq_true rfl⟩) hK hP hD hS hA [1, 2, 3, 4] [0] [0, 1, 2, 3, 4] ⟨[(h5, .inr (4, [.ref h2, .ref h3, .ref h1, .ref h4]))], rfl, rfl, rfl, rfl, by decide, rfl, rfl⟩ 0 2 rfl rfl rfl rfl hl.1 rfl (Nat.le_of_ble_eq_true rfl) dX5_text_14 ⟨Nat.zero_le _, Nat.zero_le _⟩ (fun H locs hP hD hS => ?_)
    refine lv_if_eq (tgt := 23) hx hb dX5_text_17 (by decide) (fun c_6 => ?_) (fun c_6 => ?_)
    · have h := it_p c_6 h
      refine lv_aload_n hx hb dX5_text_23 rfl (lv_at hl 0 rfl) ?_
      refine va_get (D := D) (ci := 4) (v := .ref h3) (C := RX5) (T := TX5) (N := 4) hx hb hts hinX5 hown hK.1 hP 0 rfl rfl 1 (by decide) hw1 (fun _ h9 => h9) rfl dX5_text_24 ?_
      refine lv_iload_n hx hb dX5_text_27 rfl (lv_at hl 1 rfl) ?_
      obtain ⟨⟨r_7, text3_8, textLength3_9⟩, hc_10, h⟩ := bd_s h
      refine callVi (As := [.int i1]) (rest := []) (ws2 := (w5 h5 h2 h3 h1 h4 ++ w3 cI cJ h3 text3a behind3a uppers3a text3_8 behind3 uppers3 lower3 textLength3_9)) ⟨hx, hb, hml, hown, hts⟩ (c_X3_append l D cI cJ h3 text3a behind3a uppers3a text3 behind3 uppers3 lower3 textLength3 i1 r_7 text3_8 textLength3_9 hc_10) (cwV 1 hts gX5_text_X3_append rfl rfl rfl (by decide +kernel) ⟨Nat.le_of_ble_eq_true rfl, Nat.le_of_ble_eq_true rfl⟩) hK hP hD hS hA [1, 2, 3, 4] [0] [0, 1, 2, 3, 4] ⟨[(h5, .inr (4, [.ref h2, .ref h3, .ref h1, .ref h4]))], rfl, rfl, rfl, rfl, by decide, rfl, rfl⟩ 0 2 rfl rfl rfl rfl hl.1 rfl (Nat.le_of_ble_eq_true rfl) dX5_text_28 ⟨Nat.zero_le _, Nat.zero_le _⟩ (fun H locs hP hD hS => ?_)
      cases h
      exact hret _ _ _ _ hP hD hS dX5_text_31
    · have h := it_n c_6 h
      refine lv_bipush (v := (-3)) hx hb dX5_text_20 (by decide) ?_
      cases h
      exact hret _ _ _ _ hP hD hS dX5_text_22
  · have h := it_p c_3 h
    refine lv_bipush (v := (-2)) hx hb dX5_text_7 (by decide) ?_
    cases h
    exact hret _ _ _ _ hP hD hS dX5_text_9
def f_X5_next (i1 : Int32) (i2 : Int32) (i3 : Int32) (i4 : Int32) (text3 : Nat → Int32) (behind3 : Nat → Int32) (uppers3 : Nat → Int64) (lower3 : Int64) (textLength3 : Int32) : Option (Int64 × (Nat → Int32) × (Nat → Int64) × Int64) :=
  Option.bind (f_X5_isTable i1 i2) fun r_1 =>
  if r_1 = 0 then
    some ((-2), behind3, uppers3, lower3)
  else
    Option.bind (f_X5_isWord i3) fun r_4 =>
    if r_4 = 0 then
      some ((-2), behind3, uppers3, lower3)
    else
      Option.bind (f_X5_isSide i4) fun r_7 =>
      if r_7 = 0 then
        some ((-2), behind3, uppers3, lower3)
      else
        Option.bind (f_X3_fill i1 i2 text3 behind3 uppers3 lower3 textLength3) fun (behind3_10, uppers3_11, lower3_12) =>
        Option.bind (f_X3_upperOf i3 uppers3_11) fun rj_14 =>
        Option.bind (f_X3_lowerOfAll lower3_12) fun rj_16 =>
        Option.bind (f_X0_sideOf rj_14 rj_16 i4) fun rj_18 =>
        some (rj_18, behind3_10, uppers3_11, lower3_12)
set_option maxHeartbeats 4000000 in
set_option maxRecDepth 100000 in
theorem c_X5_next (l : Launch) (D : va_G) (cI cJ : ClassId) (h5 h2 h3 h1 h4 text3a behind3a uppers3a : Nat) (text3 : Nat → Int32) (behind3 : Nat → Int32) (uppers3 : Nat → Int64) (lower3 : Int64) (textLength3 : Int32) (i1 : Int32) (i2 : Int32) (i3 : Int32) (i4 : Int32) (ret9 : Int64) (behind3z : Nat → Int32) (uppers3z : Nat → Int64) (lower3z : Int64) (h : f_X5_next i1 i2 i3 i4 text3 behind3 uppers3 lower3 textLength3 = some (ret9, behind3z, uppers3z, lower3z)) : CL l D cI cJ yX5_next wsX5_next 3 72 [.ref h5, .int i1, .int i2, .int i3, .int i4] (w5 h5 h2 h3 h1 h4 ++ w3 cI cJ h3 text3a behind3a uppers3a text3 behind3 uppers3 lower3 textLength3) (w5 h5 h2 h3 h1 h4 ++ w3 cI cJ h3 text3a behind3a uppers3a text3 behind3z uppers3z lower3z textLength3) ret9 := by
  refine entL (cc := cX5_next) (maxL := 5) (by decide) rfl (Nat.le_of_ble_eq_true rfl) ?_
  intro p e s m args below meth c ls A Q X hret
  obtain ⟨hx, hb, hml, hts, hown, hK, hA, hP, hD, hS, hl, hnm⟩ := X
  have hown : s.vm.findClass RX5 = some m.cls := hown
  have hl : lv_has ls 5 [(0, .ref h5), (1, .int i1), (2, .int i2), (3, .int i3), (4, .int i4)] := hl
  have hw1 : (Cond.constantLong RX5 88 (-2)).before args s = true := hts _ (by decide +kernel)
  have hw2 : (Cond.fieldLink RX5 19 "CountLearners" "tables" "LCountLearners$TextTables;").before args s = true := hts _ (by decide +kernel)
  have hinX5 : ∀ w ∈ wsX50, w ∈ wsX5_next := by decide +kernel
  unfold f_X5_next at h
  refine lv_iload_n hx hb dX5_next_0 rfl (lv_at hl 1 rfl) ?_
  refine lv_iload_n hx hb dX5_next_1 rfl (lv_at hl 2 rfl) ?_
  obtain ⟨r_1, hc_2, h⟩ := bd_s h
  refine callPi (As := [.int i1, .int i2]) (rest := []) ⟨hx, hb, hml, hown, hts⟩ (c_X5_isTable l D cI cJ i1 i2 r_1 hc_2) (va_cwS 2 hts gX5_next_X5_isTable rfl rfl rfl (by decide +kernel) ⟨Nat.le_of_ble_eq_true rfl, Nat.le_of_ble_eq_true rfl⟩) hK hP hD hS hA rfl hl.1 rfl (Nat.le_of_ble_eq_true rfl) dX5_next_2 ⟨Nat.zero_le _, Nat.zero_le _⟩ (fun H locs hP hD hS => ?_)
  refine lv_if_eq (tgt := 23) hx hb dX5_next_5 (by decide) (fun c_3 => ?_) (fun c_3 => ?_)
  · have h := it_p c_3 h
    refine lv_ldc2 (v := (-2)) hx hb hown hw1 dX5_next_23 ?_
    cases h
    exact hret _ _ _ _ hP hD hS dX5_next_26
  · have h := it_n c_3 h
    refine lv_iload_n hx hb dX5_next_8 rfl (lv_at hl 3 rfl) ?_
    obtain ⟨r_4, hc_5, h⟩ := bd_s h
    refine callPi (As := [.int i3]) (rest := []) ⟨hx, hb, hml, hown, hts⟩ (c_X5_isWord l D cI cJ i3 r_4 hc_5) (va_cwS 1 hts gX5_next_X5_isWord rfl rfl rfl (by decide +kernel) ⟨Nat.le_of_ble_eq_true rfl, Nat.le_of_ble_eq_true rfl⟩) hK hP hD hS hA rfl hl.1 rfl (Nat.le_of_ble_eq_true rfl) dX5_next_9 ⟨Nat.zero_le _, Nat.zero_le _⟩ (fun H locs hP hD hS => ?_)
    refine lv_if_eq (tgt := 23) hx hb dX5_next_12 (by decide) (fun c_6 => ?_) (fun c_6 => ?_)
    · have h := it_p c_6 h
      refine lv_ldc2 (v := (-2)) hx hb hown hw1 dX5_next_23 ?_
      cases h
      exact hret _ _ _ _ hP hD hS dX5_next_26
    · have h := it_n c_6 h
      refine lv_iload hx hb dX5_next_15 (lv_at hl 4 rfl) ?_
      obtain ⟨r_7, hc_8, h⟩ := bd_s h
      refine callPi (As := [.int i4]) (rest := []) ⟨hx, hb, hml, hown, hts⟩ (c_X5_isSide l D cI cJ i4 r_7 hc_8) (va_cwS 1 hts gX5_next_X5_isSide rfl rfl rfl (by decide +kernel) ⟨Nat.le_of_ble_eq_true rfl, Nat.le_of_ble_eq_true rfl⟩) hK hP hD hS hA rfl hl.1 rfl (Nat.le_of_ble_eq_true rfl) dX5_next_17 ⟨Nat.zero_le _, Nat.zero_le _⟩ (fun H locs hP hD hS => ?_)
      refine lv_if_ne (tgt := 27) hx hb dX5_next_20 (by decide) (fun c_9 => ?_) (fun c_9 => ?_)
      · have h := it_n c_9 h
        refine lv_aload_n hx hb dX5_next_27 rfl (lv_at hl 0 rfl) ?_
        refine va_get (D := D) (ci := 4) (v := .ref h3) (C := RX5) (T := TX5) (N := 4) hx hb hts hinX5 hown hK.1 hP 0 rfl rfl 1 (by decide) hw2 (fun _ h9 => h9) rfl dX5_next_28 ?_
        refine lv_iload_n hx hb dX5_next_31 rfl (lv_at hl 1 rfl) ?_
        refine lv_iload_n hx hb dX5_next_32 rfl (lv_at hl 2 rfl) ?_
        obtain ⟨⟨behind3_10, uppers3_11, lower3_12⟩, hc_13, h⟩ := bd_s h
        refine callVv (As := [.int i1, .int i2]) (rest := []) (ws2 := (w5 h5 h2 h3 h1 h4 ++ w3 cI cJ h3 text3a behind3a uppers3a text3 behind3_10 uppers3_11 lower3_12 textLength3)) ⟨hx, hb, hml, hown, hts⟩ (c_X3_fill l D cI cJ h3 text3a behind3a uppers3a text3 behind3 uppers3 lower3 textLength3 i1 i2 behind3_10 uppers3_11 lower3_12 hc_13) (cwV 2 hts gX5_next_X3_fill rfl rfl rfl (by decide +kernel) ⟨Nat.le_of_ble_eq_true rfl, Nat.le_of_ble_eq_true rfl⟩) hK hP hD hS hA [1, 2, 3, 4] [0] [0, 1, 2, 3, 4] ⟨[(h5, .inr (4, [.ref h2, .ref h3, .ref h1, .ref h4]))], rfl, rfl, rfl, rfl, by decide, rfl, rfl⟩ 0 2 rfl rfl rfl rfl hl.1 rfl (Nat.le_of_ble_eq_true rfl) dX5_next_33 ⟨Nat.zero_le _, Nat.zero_le _⟩ (fun H locs hP hD hS => ?_)
        refine lv_aload_n hx hb dX5_next_36 rfl (lv_at hl 0 rfl) ?_
        refine va_get (D := D) (ci := 4) (v := .ref h3) (C := RX5) (T := TX5) (N := 4) hx hb hts hinX5 hown hK.1 hP 0 rfl rfl 1 (by decide) hw2 (fun _ h9 => h9) rfl dX5_next_37 ?_
        refine lv_iload_n hx hb dX5_next_40 rfl (lv_at hl 3 rfl) ?_
        obtain ⟨rj_14, hc_15, h⟩ := bd_s h
        refine callVl (As := [.int i3]) (rest := []) (ws2 := (w5 h5 h2 h3 h1 h4 ++ w3 cI cJ h3 text3a behind3a uppers3a text3 behind3_10 uppers3_11 lower3_12 textLength3)) ⟨hx, hb, hml, hown, hts⟩ (c_X3_upperOf l D cI cJ h3 text3a behind3a uppers3a text3 behind3_10 uppers3_11 lower3_12 textLength3 i3 rj_14 hc_15) (cwV 1 hts gX5_next_X3_upperOf rfl rfl rfl (by decide +kernel) ⟨Nat.le_of_ble_eq_true rfl, Nat.le_of_ble_eq_true rfl⟩) hK hP hD hS hA [1, 2, 3, 4] [0] [0, 1, 2, 3, 4] ⟨[(h5, .inr (4, [.ref h2, .ref h3, .ref h1, .ref h4]))], rfl, rfl, rfl, rfl, by decide, rfl, rfl⟩ 0 2 rfl rfl rfl rfl hl.1 rfl (Nat.le_of_ble_eq_true rfl) dX5_next_41 ⟨Nat.zero_le _, Nat.zero_le _⟩ (fun H locs hP hD hS => ?_)
        refine lv_aload_n hx hb dX5_next_44 rfl (lv_at hl 0 rfl) ?_
        refine va_get (D := D) (ci := 4) (v := .ref h3) (C := RX5) (T := TX5) (N := 4) hx hb hts hinX5 hown hK.1 hP 0 rfl rfl 1 (by decide) hw2 (fun _ h9 => h9) rfl dX5_next_45 ?_
        obtain ⟨rj_16, hc_17, h⟩ := bd_s h
        refine callVl (As := []) (rest := [.long rj_14]) (ws2 := (w5 h5 h2 h3 h1 h4 ++ w3 cI cJ h3 text3a behind3a uppers3a text3 behind3_10 uppers3_11 lower3_12 textLength3)) ⟨hx, hb, hml, hown, hts⟩ (c_X3_lowerOfAll l D cI cJ h3 text3a behind3a uppers3a text3 behind3_10 uppers3_11 lower3_12 textLength3 rj_16 hc_17) (cwV 0 hts gX5_next_X3_lowerOfAll rfl rfl rfl (by decide +kernel) ⟨Nat.le_of_ble_eq_true rfl, Nat.le_of_ble_eq_true rfl⟩) hK hP hD hS hA [1, 2, 3, 4] [0] [0, 1, 2, 3, 4] ⟨[(h5, .inr (4, [.ref h2, .ref h3, .ref h1, .ref h4]))], rfl, rfl, rfl, rfl, by decide, rfl, rfl⟩ 0 2 rfl rfl rfl rfl hl.1 rfl (Nat.le_of_ble_eq_true rfl) dX5_next_48 ⟨Nat.zero_le _, Nat.zero_le _⟩ (fun H locs hP hD hS => ?_)
        refine lv_iload hx hb dX5_next_51 (lv_at hl 4 rfl) ?_
        obtain ⟨rj_18, hc_19, h⟩ := bd_s h
        refine callPl (As := [.long rj_14, .long rj_16, .int i4]) (rest := []) ⟨hx, hb, hml, hown, hts⟩ (c_X0_sideOf l D cI cJ rj_14 rj_16 i4 rj_18 hc_19) (va_cwS 3 hts gX5_next_X0_sideOf rfl rfl rfl (by decide +kernel) ⟨Nat.le_of_ble_eq_true rfl, Nat.le_of_ble_eq_true rfl⟩) hK hP hD hS hA rfl hl.1 rfl (Nat.le_of_ble_eq_true rfl) dX5_next_53 ⟨Nat.zero_le _, Nat.zero_le _⟩ (fun H locs hP hD hS => ?_)
        cases h
        exact hret _ _ _ _ hP hD hS dX5_next_56
      · have h := it_p c_9 h
        refine lv_ldc2 (v := (-2)) hx hb hown hw1 dX5_next_23 ?_
        cases h
        exact hret _ _ _ _ hP hD hS dX5_next_26
def f_X5_likely (i1 : Int32) (i2 : Int32) (text3 : Nat → Int32) (behind3 : Nat → Int32) (uppers3 : Nat → Int64) (lower3 : Int64) (textLength3 : Int32) : Option (Int32 × (Nat → Int32) × (Nat → Int64) × Int64) :=
  Option.bind (f_X5_isTable i1 i2) fun r_1 =>
  if r_1 = 0 then
    some ((-2), behind3, uppers3, lower3)
  else
    Option.bind (f_X3_fill i1 i2 text3 behind3 uppers3 lower3 textLength3) fun (behind3_4, uppers3_5, lower3_6) =>
    Option.bind (f_X3_greatest uppers3_5) fun r_8 =>
    some (r_8, behind3_4, uppers3_5, lower3_6)
set_option maxHeartbeats 4000000 in
set_option maxRecDepth 100000 in
theorem c_X5_likely (l : Launch) (D : va_G) (cI cJ : ClassId) (h5 h2 h3 h1 h4 text3a behind3a uppers3a : Nat) (text3 : Nat → Int32) (behind3 : Nat → Int32) (uppers3 : Nat → Int64) (lower3 : Int64) (textLength3 : Int32) (i1 : Int32) (i2 : Int32) (ret9 : Int32) (behind3z : Nat → Int32) (uppers3z : Nat → Int64) (lower3z : Int64) (h : f_X5_likely i1 i2 text3 behind3 uppers3 lower3 textLength3 = some (ret9, behind3z, uppers3z, lower3z)) : CI l D cI cJ yX5_likely wsX5_likely 3 72 [.ref h5, .int i1, .int i2] (w5 h5 h2 h3 h1 h4 ++ w3 cI cJ h3 text3a behind3a uppers3a text3 behind3 uppers3 lower3 textLength3) (w5 h5 h2 h3 h1 h4 ++ w3 cI cJ h3 text3a behind3a uppers3a text3 behind3z uppers3z lower3z textLength3) ret9 := by
  refine entI (cc := cX5_likely) (maxL := 3) (by decide) rfl (Nat.le_of_ble_eq_true rfl) ?_
  intro p e s m args below meth c ls A Q X hret
  obtain ⟨hx, hb, hml, hts, hown, hK, hA, hP, hD, hS, hl, hnm⟩ := X
  have hown : s.vm.findClass RX5 = some m.cls := hown
  have hl : lv_has ls 3 [(0, .ref h5), (1, .int i1), (2, .int i2)] := hl
  have hw1 : (Cond.fieldLink RX5 19 "CountLearners" "tables" "LCountLearners$TextTables;").before args s = true := hts _ (by decide +kernel)
  have hinX5 : ∀ w ∈ wsX50, w ∈ wsX5_likely := by decide +kernel
  unfold f_X5_likely at h
  refine lv_iload_n hx hb dX5_likely_0 rfl (lv_at hl 1 rfl) ?_
  refine lv_iload_n hx hb dX5_likely_1 rfl (lv_at hl 2 rfl) ?_
  obtain ⟨r_1, hc_2, h⟩ := bd_s h
  refine callPi (As := [.int i1, .int i2]) (rest := []) ⟨hx, hb, hml, hown, hts⟩ (c_X5_isTable l D cI cJ i1 i2 r_1 hc_2) (va_cwS 2 hts gX5_likely_X5_isTable rfl rfl rfl (by decide +kernel) ⟨Nat.le_of_ble_eq_true rfl, Nat.le_of_ble_eq_true rfl⟩) hK hP hD hS hA rfl hl.1 rfl (Nat.le_of_ble_eq_true rfl) dX5_likely_2 ⟨Nat.zero_le _, Nat.zero_le _⟩ (fun H locs hP hD hS => ?_)
  refine lv_if_ne (tgt := 11) hx hb dX5_likely_5 (by decide) (fun c_3 => ?_) (fun c_3 => ?_)
  · have h := it_n c_3 h
    refine lv_aload_n hx hb dX5_likely_11 rfl (lv_at hl 0 rfl) ?_
    refine va_get (D := D) (ci := 4) (v := .ref h3) (C := RX5) (T := TX5) (N := 4) hx hb hts hinX5 hown hK.1 hP 0 rfl rfl 1 (by decide) hw1 (fun _ h9 => h9) rfl dX5_likely_12 ?_
    refine lv_iload_n hx hb dX5_likely_15 rfl (lv_at hl 1 rfl) ?_
    refine lv_iload_n hx hb dX5_likely_16 rfl (lv_at hl 2 rfl) ?_
    obtain ⟨⟨behind3_4, uppers3_5, lower3_6⟩, hc_7, h⟩ := bd_s h
    refine callVv (As := [.int i1, .int i2]) (rest := []) (ws2 := (w5 h5 h2 h3 h1 h4 ++ w3 cI cJ h3 text3a behind3a uppers3a text3 behind3_4 uppers3_5 lower3_6 textLength3)) ⟨hx, hb, hml, hown, hts⟩ (c_X3_fill l D cI cJ h3 text3a behind3a uppers3a text3 behind3 uppers3 lower3 textLength3 i1 i2 behind3_4 uppers3_5 lower3_6 hc_7) (cwV 2 hts gX5_likely_X3_fill rfl rfl rfl (by decide +kernel) ⟨Nat.le_of_ble_eq_true rfl, Nat.le_of_ble_eq_true rfl⟩) hK hP hD hS hA [1, 2, 3, 4] [0] [0, 1, 2, 3, 4] ⟨[(h5, .inr (4, [.ref h2, .ref h3, .ref h1, .ref h4]))], rfl, rfl, rfl, rfl, by decide, rfl, rfl⟩ 0 2 rfl rfl rfl rfl hl.1 rfl (Nat.le_of_ble_eq_true rfl) dX5_likely_17 ⟨Nat.zero_le _, Nat.zero_le _⟩ (fun H locs hP hD hS => ?_)
    refine lv_aload_n hx hb dX5_likely_20 rfl (lv_at hl 0 rfl) ?_
    refine va_get (D := D) (ci := 4) (v := .ref h3) (C := RX5) (T := TX5) (N := 4) hx hb hts hinX5 hown hK.1 hP 0 rfl rfl 1 (by decide) hw1 (fun _ h9 => h9) rfl dX5_likely_21 ?_
    obtain ⟨r_8, hc_9, h⟩ := bd_s h
    refine callVi (As := []) (rest := []) (ws2 := (w5 h5 h2 h3 h1 h4 ++ w3 cI cJ h3 text3a behind3a uppers3a text3 behind3_4 uppers3_5 lower3_6 textLength3)) ⟨hx, hb, hml, hown, hts⟩ (c_X3_greatest l D cI cJ h3 text3a behind3a uppers3a text3 behind3_4 uppers3_5 lower3_6 textLength3 r_8 hc_9) (cwV 0 hts gX5_likely_X3_greatest rfl rfl rfl (by decide +kernel) ⟨Nat.le_of_ble_eq_true rfl, Nat.le_of_ble_eq_true rfl⟩) hK hP hD hS hA [1, 2, 3, 4] [0] [0, 1, 2, 3, 4] ⟨[(h5, .inr (4, [.ref h2, .ref h3, .ref h1, .ref h4]))], rfl, rfl, rfl, rfl, by decide, rfl, rfl⟩ 0 2 rfl rfl rfl rfl hl.1 rfl (Nat.le_of_ble_eq_true rfl) dX5_likely_24 ⟨Nat.zero_le _, Nat.zero_le _⟩ (fun H locs hP hD hS => ?_)
    cases h
    exact hret _ _ _ _ hP hD hS dX5_likely_27
  · have h := it_p c_3 h
    refine lv_bipush (v := (-2)) hx hb dX5_likely_8 (by decide) ?_
    cases h
    exact hret _ _ _ _ hP hD hS dX5_likely_10
def f_X5_weigh (i1 : Int32) (i2 : Int32) (i3 : Int32) (i4 : Int32) (weights1 : Nat → Int32) : Option (Int32 × (Nat → Int32)) :=
  Option.bind (f_X1_placeOf i1 i2 i3) fun r_1 =>
  nm (α := Int32) (r_1) fun x5_3 =>
  if x5_3 = (-1) then
    some ((-2), weights1)
  else
    Option.bind (f_X5_isWithin i4 (-1) 21) fun r_5 =>
    if r_5 = 0 then
      some ((-2), weights1)
    else
      Option.bind (f_X1_reweigh x5_3 i4 weights1) fun (r_8, weights1_9) =>
      some (r_8, weights1_9)
set_option maxHeartbeats 4000000 in
set_option maxRecDepth 100000 in
theorem c_X5_weigh (l : Launch) (D : va_G) (cI cJ : ClassId) (h5 h2 h3 h1 h4 weights1a freshWeights1a signs1a lengths1a sums1a nextSums1a bestFrom1a bestPath1a : Nat) (weights1 : Nat → Int32) (freshWeights1 : Nat → Int32) (signs1 : Nat → Int32) (lengths1 : Nat → Int32) (sums1 : Nat → Int64) (nextSums1 : Nat → Int64) (bestFrom1 : Nat → Int64) (bestPath1 : Nat → Int32) (i1 : Int32) (i2 : Int32) (i3 : Int32) (i4 : Int32) (ret9 : Int32) (weights1z : Nat → Int32) (h : f_X5_weigh i1 i2 i3 i4 weights1 = some (ret9, weights1z)) : CI l D cI cJ yX5_weigh wsX5_weigh 2 43 [.ref h5, .int i1, .int i2, .int i3, .int i4] (w5 h5 h2 h3 h1 h4 ++ w1 cI cJ h1 weights1a freshWeights1a signs1a lengths1a sums1a nextSums1a bestFrom1a bestPath1a weights1 freshWeights1 signs1 lengths1 sums1 nextSums1 bestFrom1 bestPath1) (w5 h5 h2 h3 h1 h4 ++ w1 cI cJ h1 weights1a freshWeights1a signs1a lengths1a sums1a nextSums1a bestFrom1a bestPath1a weights1z freshWeights1 signs1 lengths1 sums1 nextSums1 bestFrom1 bestPath1) ret9 := by
  refine entI (cc := cX5_weigh) (maxL := 6) (by decide) rfl (Nat.le_of_ble_eq_true rfl) ?_
  intro p e s m args below meth c ls A Q X hret
  obtain ⟨hx, hb, hml, hts, hown, hK, hA, hP, hD, hS, hl, hnm⟩ := X
  have hown : s.vm.findClass RX5 = some m.cls := hown
  have hl : lv_has ls 6 [(0, .ref h5), (1, .int i1), (2, .int i2), (3, .int i3), (4, .int i4)] := hl
  have hw1 : (Cond.fieldLink RX5 26 "CountLearners" "states" "LCountLearners$HiddenStates;").before args s = true := hts _ (by decide +kernel)
  have hinX5 : ∀ w ∈ wsX50, w ∈ wsX5_weigh := by decide +kernel
  unfold f_X5_weigh at h
  refine lv_iload_n hx hb dX5_weigh_0 rfl (lv_at hl 1 rfl) ?_
  refine lv_iload_n hx hb dX5_weigh_1 rfl (lv_at hl 2 rfl) ?_
  refine lv_iload_n hx hb dX5_weigh_2 rfl (lv_at hl 3 rfl) ?_
  obtain ⟨r_1, hc_2, h⟩ := bd_s h
  refine callPi (As := [.int i1, .int i2, .int i3]) (rest := []) ⟨hx, hb, hml, hown, hts⟩ (c_X1_placeOf l D cI cJ i1 i2 i3 r_1 hc_2) (va_cwS 3 hts gX5_weigh_X1_placeOf rfl rfl rfl (by decide +kernel) ⟨Nat.le_of_ble_eq_true rfl, Nat.le_of_ble_eq_true rfl⟩) hK hP hD hS hA rfl hl.1 rfl (Nat.le_of_ble_eq_true rfl) dX5_weigh_3 ⟨Nat.zero_le _, Nat.zero_le _⟩ (fun H locs hP hD hS => ?_)
  refine lv_topi (fun x5_3 ex5_3 => ?_)
  have h := nm_s h x5_3 ex5_3
  refine lv_istore (lv' := [(5, .int x5_3), (0, .ref h5), (1, .int i1), (2, .int i2), (3, .int i3), (4, .int i4)]) hx hb dX5_weigh_6 hl (by decide) rfl (fun ls hl => ?_)
  refine lv_iload hx hb dX5_weigh_8 (lv_at hl 0 rfl) ?_
  refine lv_iconst (v := (-1)) hx hb dX5_weigh_10 (by decide) ?_
  refine lv_icmp_eq (tgt := 25) hx hb dX5_weigh_11 (by decide) (fun c_4 => ?_) (fun c_4 => ?_)
  · have h := it_p c_4 h
    refine lv_bipush (v := (-2)) hx hb dX5_weigh_25 (by decide) ?_
    cases h
    exact hret _ _ _ _ hP hD hS dX5_weigh_27
  · have h := it_n c_4 h
    refine lv_iload hx hb dX5_weigh_14 (lv_at hl 5 rfl) ?_
    refine lv_iconst (v := (-1)) hx hb dX5_weigh_16 (by decide) ?_
    refine lv_bipush (v := 21) hx hb dX5_weigh_17 (by decide) ?_
    obtain ⟨r_5, hc_6, h⟩ := bd_s h
    refine callPi (As := [.int i4, .int (-1), .int 21]) (rest := []) ⟨hx, hb, hml, hown, hts⟩ (c_X5_isWithin l D cI cJ i4 (-1) 21 r_5 hc_6) (va_cwS 3 hts gX5_weigh_X5_isWithin rfl rfl rfl (by decide +kernel) ⟨Nat.le_of_ble_eq_true rfl, Nat.le_of_ble_eq_true rfl⟩) hK hP hD hS hA rfl hl.1 rfl (Nat.le_of_ble_eq_true rfl) dX5_weigh_19 ⟨Nat.zero_le _, Nat.zero_le _⟩ (fun H locs hP hD hS => ?_)
    refine lv_if_ne (tgt := 28) hx hb dX5_weigh_22 (by decide) (fun c_7 => ?_) (fun c_7 => ?_)
    · have h := it_n c_7 h
      refine lv_aload_n hx hb dX5_weigh_28 rfl (lv_at hl 1 rfl) ?_
      refine va_get (D := D) (ci := 4) (v := .ref h1) (C := RX5) (T := TX5) (N := 4) hx hb hts hinX5 hown hK.1 hP 0 rfl rfl 2 (by decide) hw1 (fun _ h9 => h9) rfl dX5_weigh_29 ?_
      refine lv_iload hx hb dX5_weigh_32 (lv_at hl 0 rfl) ?_
      refine lv_iload hx hb dX5_weigh_34 (lv_at hl 5 rfl) ?_
      obtain ⟨⟨r_8, weights1_9⟩, hc_10, h⟩ := bd_s h
      refine callVi (As := [.int x5_3, .int i4]) (rest := []) (ws2 := (w5 h5 h2 h3 h1 h4 ++ w1 cI cJ h1 weights1a freshWeights1a signs1a lengths1a sums1a nextSums1a bestFrom1a bestPath1a weights1_9 freshWeights1 signs1 lengths1 sums1 nextSums1 bestFrom1 bestPath1)) ⟨hx, hb, hml, hown, hts⟩ (c_X1_reweigh l D cI cJ h1 weights1a freshWeights1a signs1a lengths1a sums1a nextSums1a bestFrom1a bestPath1a weights1 freshWeights1 signs1 lengths1 sums1 nextSums1 bestFrom1 bestPath1 x5_3 i4 r_8 weights1_9 hc_10) (cwV 2 hts gX5_weigh_X1_reweigh rfl rfl rfl (by decide +kernel) ⟨Nat.le_of_ble_eq_true rfl, Nat.le_of_ble_eq_true rfl⟩) hK hP hD hS hA [1, 2, 3, 4, 5, 6, 7, 8, 9] [0] [0, 1, 2, 3, 4, 5, 6, 7, 8, 9] ⟨[(h5, .inr (4, [.ref h2, .ref h3, .ref h1, .ref h4]))], rfl, rfl, rfl, rfl, by decide, rfl, rfl⟩ 0 0 rfl rfl rfl rfl hl.1 rfl (Nat.le_of_ble_eq_true rfl) dX5_weigh_36 ⟨Nat.zero_le _, Nat.zero_le _⟩ (fun H locs hP hD hS => ?_)
      cases h
      exact hret _ _ _ _ hP hD hS dX5_weigh_39
    · have h := it_p c_7 h
      refine lv_bipush (v := (-2)) hx hb dX5_weigh_25 (by decide) ?_
      cases h
      exact hret _ _ _ _ hP hD hS dX5_weigh_27
def f_X5_sign (i1 : Int32) (i2 : Int32) (signs1 : Nat → Int32) (lengths1 : Nat → Int32) : Option (Int32 × (Nat → Int32) × (Nat → Int32)) :=
  Option.bind (f_X1_isRow i1) fun r_1 =>
  if r_1 = 0 then
    some ((-2), signs1, lengths1)
  else
    Option.bind (f_X1_isSign i2) fun r_4 =>
    if r_4 = 0 then
      some ((-2), signs1, lengths1)
    else
      Option.bind (f_X1_isFullRow i1 lengths1) fun r_7 =>
      if r_7 = 0 then
        Option.bind (f_X1_append i1 i2 signs1 lengths1) fun (r_10, signs1_11, lengths1_12) =>
        some (r_10, signs1_11, lengths1_12)
      else
        some ((-3), signs1, lengths1)
set_option maxHeartbeats 4000000 in
set_option maxRecDepth 100000 in
theorem c_X5_sign (l : Launch) (D : va_G) (cI cJ : ClassId) (h5 h2 h3 h1 h4 weights1a freshWeights1a signs1a lengths1a sums1a nextSums1a bestFrom1a bestPath1a : Nat) (weights1 : Nat → Int32) (freshWeights1 : Nat → Int32) (signs1 : Nat → Int32) (lengths1 : Nat → Int32) (sums1 : Nat → Int64) (nextSums1 : Nat → Int64) (bestFrom1 : Nat → Int64) (bestPath1 : Nat → Int32) (i1 : Int32) (i2 : Int32) (ret9 : Int32) (signs1z : Nat → Int32) (lengths1z : Nat → Int32) (h : f_X5_sign i1 i2 signs1 lengths1 = some (ret9, signs1z, lengths1z)) : CI l D cI cJ yX5_sign wsX5_sign 1 22 [.ref h5, .int i1, .int i2] (w5 h5 h2 h3 h1 h4 ++ w1 cI cJ h1 weights1a freshWeights1a signs1a lengths1a sums1a nextSums1a bestFrom1a bestPath1a weights1 freshWeights1 signs1 lengths1 sums1 nextSums1 bestFrom1 bestPath1) (w5 h5 h2 h3 h1 h4 ++ w1 cI cJ h1 weights1a freshWeights1a signs1a lengths1a sums1a nextSums1a bestFrom1a bestPath1a weights1 freshWeights1 signs1z lengths1z sums1 nextSums1 bestFrom1 bestPath1) ret9 := by
  refine entI (cc := cX5_sign) (maxL := 3) (by decide) rfl (Nat.le_of_ble_eq_true rfl) ?_
  intro p e s m args below meth c ls A Q X hret
  obtain ⟨hx, hb, hml, hts, hown, hK, hA, hP, hD, hS, hl, hnm⟩ := X
  have hown : s.vm.findClass RX5 = some m.cls := hown
  have hl : lv_has ls 3 [(0, .ref h5), (1, .int i1), (2, .int i2)] := hl
  have hw1 : (Cond.fieldLink RX5 26 "CountLearners" "states" "LCountLearners$HiddenStates;").before args s = true := hts _ (by decide +kernel)
  have hinX5 : ∀ w ∈ wsX50, w ∈ wsX5_sign := by decide +kernel
  unfold f_X5_sign at h
  refine lv_iload_n hx hb dX5_sign_0 rfl (lv_at hl 1 rfl) ?_
  obtain ⟨r_1, hc_2, h⟩ := bd_s h
  refine callPi (As := [.int i1]) (rest := []) ⟨hx, hb, hml, hown, hts⟩ (c_X1_isRow l D cI cJ i1 r_1 hc_2) (va_cwS 1 hts gX5_sign_X1_isRow rfl rfl rfl (by decide +kernel) ⟨Nat.le_of_ble_eq_true rfl, Nat.le_of_ble_eq_true rfl⟩) hK hP hD hS hA rfl hl.1 rfl (Nat.le_of_ble_eq_true rfl) dX5_sign_1 ⟨Nat.zero_le _, Nat.zero_le _⟩ (fun H locs hP hD hS => ?_)
  refine lv_if_eq (tgt := 14) hx hb dX5_sign_4 (by decide) (fun c_3 => ?_) (fun c_3 => ?_)
  · have h := it_p c_3 h
    refine lv_bipush (v := (-2)) hx hb dX5_sign_14 (by decide) ?_
    cases h
    exact hret _ _ _ _ hP hD hS dX5_sign_16
  · have h := it_n c_3 h
    refine lv_iload_n hx hb dX5_sign_7 rfl (lv_at hl 2 rfl) ?_
    obtain ⟨r_4, hc_5, h⟩ := bd_s h
    refine callPi (As := [.int i2]) (rest := []) ⟨hx, hb, hml, hown, hts⟩ (c_X1_isSign l D cI cJ i2 r_4 hc_5) (va_cwS 1 hts gX5_sign_X1_isSign rfl rfl rfl (by decide +kernel) ⟨Nat.le_of_ble_eq_true rfl, Nat.le_of_ble_eq_true rfl⟩) hK hP hD hS hA rfl hl.1 rfl (Nat.le_of_ble_eq_true rfl) dX5_sign_8 ⟨Nat.zero_le _, Nat.zero_le _⟩ (fun H locs hP hD hS => ?_)
    refine lv_if_ne (tgt := 17) hx hb dX5_sign_11 (by decide) (fun c_6 => ?_) (fun c_6 => ?_)
    · have h := it_n c_6 h
      refine lv_aload_n hx hb dX5_sign_17 rfl (lv_at hl 0 rfl) ?_
      refine va_get (D := D) (ci := 4) (v := .ref h1) (C := RX5) (T := TX5) (N := 4) hx hb hts hinX5 hown hK.1 hP 0 rfl rfl 2 (by decide) hw1 (fun _ h9 => h9) rfl dX5_sign_18 ?_
      refine lv_iload_n hx hb dX5_sign_21 rfl (lv_at hl 1 rfl) ?_
      obtain ⟨r_7, hc_8, h⟩ := bd_s h
      refine callVi (As := [.int i1]) (rest := []) (ws2 := (w5 h5 h2 h3 h1 h4 ++ w1 cI cJ h1 weights1a freshWeights1a signs1a lengths1a sums1a nextSums1a bestFrom1a bestPath1a weights1 freshWeights1 signs1 lengths1 sums1 nextSums1 bestFrom1 bestPath1)) ⟨hx, hb, hml, hown, hts⟩ (c_X1_isFullRow l D cI cJ h1 weights1a freshWeights1a signs1a lengths1a sums1a nextSums1a bestFrom1a bestPath1a weights1 freshWeights1 signs1 lengths1 sums1 nextSums1 bestFrom1 bestPath1 i1 r_7 hc_8) (cwV 1 hts gX5_sign_X1_isFullRow rfl rfl rfl (by decide +kernel) ⟨Nat.le_of_ble_eq_true rfl, Nat.le_of_ble_eq_true rfl⟩) hK hP hD hS hA [1, 2, 3, 4, 5, 6, 7, 8, 9] [0] [0, 1, 2, 3, 4, 5, 6, 7, 8, 9] ⟨[(h5, .inr (4, [.ref h2, .ref h3, .ref h1, .ref h4]))], rfl, rfl, rfl, rfl, by decide, rfl, rfl⟩ 0 0 rfl rfl rfl rfl hl.1 rfl (Nat.le_of_ble_eq_true rfl) dX5_sign_22 ⟨Nat.zero_le _, Nat.zero_le _⟩ (fun H locs hP hD hS => ?_)
      refine lv_if_eq (tgt := 31) hx hb dX5_sign_25 (by decide) (fun c_9 => ?_) (fun c_9 => ?_)
      · have h := it_p c_9 h
        refine lv_aload_n hx hb dX5_sign_31 rfl (lv_at hl 0 rfl) ?_
        refine va_get (D := D) (ci := 4) (v := .ref h1) (C := RX5) (T := TX5) (N := 4) hx hb hts hinX5 hown hK.1 hP 0 rfl rfl 2 (by decide) hw1 (fun _ h9 => h9) rfl dX5_sign_32 ?_
        refine lv_iload_n hx hb dX5_sign_35 rfl (lv_at hl 1 rfl) ?_
        refine lv_iload_n hx hb dX5_sign_36 rfl (lv_at hl 2 rfl) ?_
        obtain ⟨⟨r_10, signs1_11, lengths1_12⟩, hc_13, h⟩ := bd_s h
        refine callVi (As := [.int i1, .int i2]) (rest := []) (ws2 := (w5 h5 h2 h3 h1 h4 ++ w1 cI cJ h1 weights1a freshWeights1a signs1a lengths1a sums1a nextSums1a bestFrom1a bestPath1a weights1 freshWeights1 signs1_11 lengths1_12 sums1 nextSums1 bestFrom1 bestPath1)) ⟨hx, hb, hml, hown, hts⟩ (c_X1_append l D cI cJ h1 weights1a freshWeights1a signs1a lengths1a sums1a nextSums1a bestFrom1a bestPath1a weights1 freshWeights1 signs1 lengths1 sums1 nextSums1 bestFrom1 bestPath1 i1 i2 r_10 signs1_11 lengths1_12 hc_13) (cwV 2 hts gX5_sign_X1_append rfl rfl rfl (by decide +kernel) ⟨Nat.le_of_ble_eq_true rfl, Nat.le_of_ble_eq_true rfl⟩) hK hP hD hS hA [1, 2, 3, 4, 5, 6, 7, 8, 9] [0] [0, 1, 2, 3, 4, 5, 6, 7, 8, 9] ⟨[(h5, .inr (4, [.ref h2, .ref h3, .ref h1, .ref h4]))], rfl, rfl, rfl, rfl, by decide, rfl, rfl⟩ 0 0 rfl rfl rfl rfl hl.1 rfl (Nat.le_of_ble_eq_true rfl) dX5_sign_37 ⟨Nat.zero_le _, Nat.zero_le _⟩ (fun H locs hP hD hS => ?_)
        cases h
        exact hret _ _ _ _ hP hD hS dX5_sign_40
      · have h := it_n c_9 h
        refine lv_bipush (v := (-3)) hx hb dX5_sign_28 (by decide) ?_
        cases h
        exact hret _ _ _ _ hP hD hS dX5_sign_30
    · have h := it_p c_6 h
      refine lv_bipush (v := (-2)) hx hb dX5_sign_14 (by decide) ?_
      cases h
      exact hret _ _ _ _ hP hD hS dX5_sign_16
def f_X5_path (i1 : Int32) (i2 : Int32) (weights1 : Nat → Int32) (signs1 : Nat → Int32) (lengths1 : Nat → Int32) (bestFrom1 : Nat → Int64) (bestPath1 : Nat → Int32) : Option (Int32 × (Nat → Int64) × (Nat → Int32)) :=
  Option.bind (f_X1_isRow i1) fun r_1 =>
  if r_1 = 0 then
    some ((-2), bestFrom1, bestPath1)
  else
    Option.bind (f_X1_hasPlace i1 i2 lengths1) fun r_4 =>
    if r_4 = 0 then
      some ((-1), bestFrom1, bestPath1)
    else
      Option.bind (f_X1_findBestPath i1 weights1 signs1 lengths1 bestFrom1 bestPath1) fun (r_7, bestFrom1_8, bestPath1_9) =>
      if r_7 = 0 then
        some ((-1), bestFrom1_8, bestPath1_9)
      else
        Option.bind (f_X1_stateOnBestPath i2 bestPath1_9) fun r_12 =>
        some (r_12, bestFrom1_8, bestPath1_9)
set_option maxHeartbeats 4000000 in
set_option maxRecDepth 100000 in
theorem c_X5_path (l : Launch) (D : va_G) (cI cJ : ClassId) (h5 h2 h3 h1 h4 weights1a freshWeights1a signs1a lengths1a sums1a nextSums1a bestFrom1a bestPath1a : Nat) (weights1 : Nat → Int32) (freshWeights1 : Nat → Int32) (signs1 : Nat → Int32) (lengths1 : Nat → Int32) (sums1 : Nat → Int64) (nextSums1 : Nat → Int64) (bestFrom1 : Nat → Int64) (bestPath1 : Nat → Int32) (i1 : Int32) (i2 : Int32) (ret9 : Int32) (bestFrom1z : Nat → Int64) (bestPath1z : Nat → Int32) (h : f_X5_path i1 i2 weights1 signs1 lengths1 bestFrom1 bestPath1 = some (ret9, bestFrom1z, bestPath1z)) : CI l D cI cJ yX5_path wsX5_path 4 94 [.ref h5, .int i1, .int i2] (w5 h5 h2 h3 h1 h4 ++ w1 cI cJ h1 weights1a freshWeights1a signs1a lengths1a sums1a nextSums1a bestFrom1a bestPath1a weights1 freshWeights1 signs1 lengths1 sums1 nextSums1 bestFrom1 bestPath1) (w5 h5 h2 h3 h1 h4 ++ w1 cI cJ h1 weights1a freshWeights1a signs1a lengths1a sums1a nextSums1a bestFrom1a bestPath1a weights1 freshWeights1 signs1 lengths1 sums1 nextSums1 bestFrom1z bestPath1z) ret9 := by
  refine entI (cc := cX5_path) (maxL := 3) (by decide) rfl (Nat.le_of_ble_eq_true rfl) ?_
  intro p e s m args below meth c ls A Q X hret
  obtain ⟨hx, hb, hml, hts, hown, hK, hA, hP, hD, hS, hl, hnm⟩ := X
  have hown : s.vm.findClass RX5 = some m.cls := hown
  have hl : lv_has ls 3 [(0, .ref h5), (1, .int i1), (2, .int i2)] := hl
  have hw1 : (Cond.fieldLink RX5 26 "CountLearners" "states" "LCountLearners$HiddenStates;").before args s = true := hts _ (by decide +kernel)
  have hinX5 : ∀ w ∈ wsX50, w ∈ wsX5_path := by decide +kernel
  unfold f_X5_path at h
  refine lv_iload_n hx hb dX5_path_0 rfl (lv_at hl 1 rfl) ?_
  obtain ⟨r_1, hc_2, h⟩ := bd_s h
  refine callPi (As := [.int i1]) (rest := []) ⟨hx, hb, hml, hown, hts⟩ (c_X1_isRow l D cI cJ i1 r_1 hc_2) (va_cwS 1 hts gX5_path_X1_isRow rfl rfl rfl (by decide +kernel) ⟨Nat.le_of_ble_eq_true rfl, Nat.le_of_ble_eq_true rfl⟩) hK hP hD hS hA rfl hl.1 rfl (Nat.le_of_ble_eq_true rfl) dX5_path_1 ⟨Nat.zero_le _, Nat.zero_le _⟩ (fun H locs hP hD hS => ?_)
  refine lv_if_ne (tgt := 10) hx hb dX5_path_4 (by decide) (fun c_3 => ?_) (fun c_3 => ?_)
  · have h := it_n c_3 h
    refine lv_aload_n hx hb dX5_path_10 rfl (lv_at hl 0 rfl) ?_
    refine va_get (D := D) (ci := 4) (v := .ref h1) (C := RX5) (T := TX5) (N := 4) hx hb hts hinX5 hown hK.1 hP 0 rfl rfl 2 (by decide) hw1 (fun _ h9 => h9) rfl dX5_path_11 ?_
    refine lv_iload_n hx hb dX5_path_14 rfl (lv_at hl 1 rfl) ?_
    refine lv_iload_n hx hb dX5_path_15 rfl (lv_at hl 2 rfl) ?_
    obtain ⟨r_4, hc_5, h⟩ := bd_s h
    refine callVi (As := [.int i1, .int i2]) (rest := []) (ws2 := (w5 h5 h2 h3 h1 h4 ++ w1 cI cJ h1 weights1a freshWeights1a signs1a lengths1a sums1a nextSums1a bestFrom1a bestPath1a weights1 freshWeights1 signs1 lengths1 sums1 nextSums1 bestFrom1 bestPath1)) ⟨hx, hb, hml, hown, hts⟩ (c_X1_hasPlace l D cI cJ h1 weights1a freshWeights1a signs1a lengths1a sums1a nextSums1a bestFrom1a bestPath1a weights1 freshWeights1 signs1 lengths1 sums1 nextSums1 bestFrom1 bestPath1 i1 i2 r_4 hc_5) (cwV 2 hts gX5_path_X1_hasPlace rfl rfl rfl (by decide +kernel) ⟨Nat.le_of_ble_eq_true rfl, Nat.le_of_ble_eq_true rfl⟩) hK hP hD hS hA [1, 2, 3, 4, 5, 6, 7, 8, 9] [0] [0, 1, 2, 3, 4, 5, 6, 7, 8, 9] ⟨[(h5, .inr (4, [.ref h2, .ref h3, .ref h1, .ref h4]))], rfl, rfl, rfl, rfl, by decide, rfl, rfl⟩ 0 0 rfl rfl rfl rfl hl.1 rfl (Nat.le_of_ble_eq_true rfl) dX5_path_16 ⟨Nat.zero_le _, Nat.zero_le _⟩ (fun H locs hP hD hS => ?_)
    refine lv_if_eq (tgt := 33) hx hb dX5_path_19 (by decide) (fun c_6 => ?_) (fun c_6 => ?_)
    · have h := it_p c_6 h
      refine lv_iconst (v := (-1)) hx hb dX5_path_33 (by decide) ?_
      cases h
      exact hret _ _ _ _ hP hD hS dX5_path_34
    · have h := it_n c_6 h
      refine lv_aload_n hx hb dX5_path_22 rfl (lv_at hl 0 rfl) ?_
      refine va_get (D := D) (ci := 4) (v := .ref h1) (C := RX5) (T := TX5) (N := 4) hx hb hts hinX5 hown hK.1 hP 0 rfl rfl 2 (by decide) hw1 (fun _ h9 => h9) rfl dX5_path_23 ?_
      refine lv_iload_n hx hb dX5_path_26 rfl (lv_at hl 1 rfl) ?_
      obtain ⟨⟨r_7, bestFrom1_8, bestPath1_9⟩, hc_10, h⟩ := bd_s h
      refine callVi (As := [.int i1]) (rest := []) (ws2 := (w5 h5 h2 h3 h1 h4 ++ w1 cI cJ h1 weights1a freshWeights1a signs1a lengths1a sums1a nextSums1a bestFrom1a bestPath1a weights1 freshWeights1 signs1 lengths1 sums1 nextSums1 bestFrom1_8 bestPath1_9)) ⟨hx, hb, hml, hown, hts⟩ (c_X1_findBestPath l D cI cJ h1 weights1a freshWeights1a signs1a lengths1a sums1a nextSums1a bestFrom1a bestPath1a weights1 freshWeights1 signs1 lengths1 sums1 nextSums1 bestFrom1 bestPath1 i1 r_7 bestFrom1_8 bestPath1_9 hc_10) (cwV 1 hts gX5_path_X1_findBestPath rfl rfl rfl (by decide +kernel) ⟨Nat.le_of_ble_eq_true rfl, Nat.le_of_ble_eq_true rfl⟩) hK hP hD hS hA [1, 2, 3, 4, 5, 6, 7, 8, 9] [0] [0, 1, 2, 3, 4, 5, 6, 7, 8, 9] ⟨[(h5, .inr (4, [.ref h2, .ref h3, .ref h1, .ref h4]))], rfl, rfl, rfl, rfl, by decide, rfl, rfl⟩ 0 0 rfl rfl rfl rfl hl.1 rfl (Nat.le_of_ble_eq_true rfl) dX5_path_27 ⟨Nat.zero_le _, Nat.zero_le _⟩ (fun H locs hP hD hS => ?_)
      refine lv_if_ne (tgt := 35) hx hb dX5_path_30 (by decide) (fun c_11 => ?_) (fun c_11 => ?_)
      · have h := it_n c_11 h
        refine lv_aload_n hx hb dX5_path_35 rfl (lv_at hl 0 rfl) ?_
        refine va_get (D := D) (ci := 4) (v := .ref h1) (C := RX5) (T := TX5) (N := 4) hx hb hts hinX5 hown hK.1 hP 0 rfl rfl 2 (by decide) hw1 (fun _ h9 => h9) rfl dX5_path_36 ?_
        refine lv_iload_n hx hb dX5_path_39 rfl (lv_at hl 2 rfl) ?_
        obtain ⟨r_12, hc_13, h⟩ := bd_s h
        refine callVi (As := [.int i2]) (rest := []) (ws2 := (w5 h5 h2 h3 h1 h4 ++ w1 cI cJ h1 weights1a freshWeights1a signs1a lengths1a sums1a nextSums1a bestFrom1a bestPath1a weights1 freshWeights1 signs1 lengths1 sums1 nextSums1 bestFrom1_8 bestPath1_9)) ⟨hx, hb, hml, hown, hts⟩ (c_X1_stateOnBestPath l D cI cJ h1 weights1a freshWeights1a signs1a lengths1a sums1a nextSums1a bestFrom1a bestPath1a weights1 freshWeights1 signs1 lengths1 sums1 nextSums1 bestFrom1_8 bestPath1_9 i2 r_12 hc_13) (cwV 1 hts gX5_path_X1_stateOnBestPath rfl rfl rfl (by decide +kernel) ⟨Nat.le_of_ble_eq_true rfl, Nat.le_of_ble_eq_true rfl⟩) hK hP hD hS hA [1, 2, 3, 4, 5, 6, 7, 8, 9] [0] [0, 1, 2, 3, 4, 5, 6, 7, 8, 9] ⟨[(h5, .inr (4, [.ref h2, .ref h3, .ref h1, .ref h4]))], rfl, rfl, rfl, rfl, by decide, rfl, rfl⟩ 0 0 rfl rfl rfl rfl hl.1 rfl (Nat.le_of_ble_eq_true rfl) dX5_path_40 ⟨Nat.zero_le _, Nat.zero_le _⟩ (fun H locs hP hD hS => ?_)
        cases h
        exact hret _ _ _ _ hP hD hS dX5_path_43
      · have h := it_p c_11 h
        refine lv_iconst (v := (-1)) hx hb dX5_path_33 (by decide) ?_
        cases h
        exact hret _ _ _ _ hP hD hS dX5_path_34
  · have h := it_p c_3 h
    refine lv_bipush (v := (-2)) hx hb dX5_path_7 (by decide) ?_
    cases h
    exact hret _ _ _ _ hP hD hS dX5_path_9
def f_X5_total (i1 : Int32) (weights1 : Nat → Int32) (signs1 : Nat → Int32) (lengths1 : Nat → Int32) (sums1 : Nat → Int64) (nextSums1 : Nat → Int64) : Option (Int64 × (Nat → Int64) × (Nat → Int64)) :=
  Option.bind (f_X1_isRow i1) fun r_1 =>
  if r_1 = 0 then
    some ((-2), sums1, nextSums1)
  else
    Option.bind (f_X1_totalOf i1 weights1 signs1 lengths1 sums1 nextSums1) fun (rj_4, sums1_5, nextSums1_6) =>
    some (rj_4, sums1_5, nextSums1_6)
set_option maxHeartbeats 4000000 in
set_option maxRecDepth 100000 in
theorem c_X5_total (l : Launch) (D : va_G) (cI cJ : ClassId) (h5 h2 h3 h1 h4 weights1a freshWeights1a signs1a lengths1a sums1a nextSums1a bestFrom1a bestPath1a : Nat) (weights1 : Nat → Int32) (freshWeights1 : Nat → Int32) (signs1 : Nat → Int32) (lengths1 : Nat → Int32) (sums1 : Nat → Int64) (nextSums1 : Nat → Int64) (bestFrom1 : Nat → Int64) (bestPath1 : Nat → Int32) (i1 : Int32) (ret9 : Int64) (sums1z : Nat → Int64) (nextSums1z : Nat → Int64) (h : f_X5_total i1 weights1 signs1 lengths1 sums1 nextSums1 = some (ret9, sums1z, nextSums1z)) : CL l D cI cJ yX5_total wsX5_total 4 92 [.ref h5, .int i1] (w5 h5 h2 h3 h1 h4 ++ w1 cI cJ h1 weights1a freshWeights1a signs1a lengths1a sums1a nextSums1a bestFrom1a bestPath1a weights1 freshWeights1 signs1 lengths1 sums1 nextSums1 bestFrom1 bestPath1) (w5 h5 h2 h3 h1 h4 ++ w1 cI cJ h1 weights1a freshWeights1a signs1a lengths1a sums1a nextSums1a bestFrom1a bestPath1a weights1 freshWeights1 signs1 lengths1 sums1z nextSums1z bestFrom1 bestPath1) ret9 := by
  refine entL (cc := cX5_total) (maxL := 2) (by decide) rfl (Nat.le_of_ble_eq_true rfl) ?_
  intro p e s m args below meth c ls A Q X hret
  obtain ⟨hx, hb, hml, hts, hown, hK, hA, hP, hD, hS, hl, hnm⟩ := X
  have hown : s.vm.findClass RX5 = some m.cls := hown
  have hl : lv_has ls 2 [(0, .ref h5), (1, .int i1)] := hl
  have hw1 : (Cond.constantLong RX5 88 (-2)).before args s = true := hts _ (by decide +kernel)
  have hw2 : (Cond.fieldLink RX5 26 "CountLearners" "states" "LCountLearners$HiddenStates;").before args s = true := hts _ (by decide +kernel)
  have hinX5 : ∀ w ∈ wsX50, w ∈ wsX5_total := by decide +kernel
  unfold f_X5_total at h
  refine lv_iload_n hx hb dX5_total_0 rfl (lv_at hl 1 rfl) ?_
  obtain ⟨r_1, hc_2, h⟩ := bd_s h
  refine callPi (As := [.int i1]) (rest := []) ⟨hx, hb, hml, hown, hts⟩ (c_X1_isRow l D cI cJ i1 r_1 hc_2) (va_cwS 1 hts gX5_total_X1_isRow rfl rfl rfl (by decide +kernel) ⟨Nat.le_of_ble_eq_true rfl, Nat.le_of_ble_eq_true rfl⟩) hK hP hD hS hA rfl hl.1 rfl (Nat.le_of_ble_eq_true rfl) dX5_total_1 ⟨Nat.zero_le _, Nat.zero_le _⟩ (fun H locs hP hD hS => ?_)
  refine lv_if_eq (tgt := 18) hx hb dX5_total_4 (by decide) (fun c_3 => ?_) (fun c_3 => ?_)
  · have h := it_p c_3 h
    refine lv_ldc2 (v := (-2)) hx hb hown hw1 dX5_total_18 ?_
    cases h
    exact hret _ _ _ _ hP hD hS dX5_total_21
  · have h := it_n c_3 h
    refine lv_aload_n hx hb dX5_total_7 rfl (lv_at hl 0 rfl) ?_
    refine va_get (D := D) (ci := 4) (v := .ref h1) (C := RX5) (T := TX5) (N := 4) hx hb hts hinX5 hown hK.1 hP 0 rfl rfl 2 (by decide) hw2 (fun _ h9 => h9) rfl dX5_total_8 ?_
    refine lv_iload_n hx hb dX5_total_11 rfl (lv_at hl 1 rfl) ?_
    obtain ⟨⟨rj_4, sums1_5, nextSums1_6⟩, hc_7, h⟩ := bd_s h
    refine callVl (As := [.int i1]) (rest := []) (ws2 := (w5 h5 h2 h3 h1 h4 ++ w1 cI cJ h1 weights1a freshWeights1a signs1a lengths1a sums1a nextSums1a bestFrom1a bestPath1a weights1 freshWeights1 signs1 lengths1 sums1_5 nextSums1_6 bestFrom1 bestPath1)) ⟨hx, hb, hml, hown, hts⟩ (c_X1_totalOf l D cI cJ h1 weights1a freshWeights1a signs1a lengths1a sums1a nextSums1a bestFrom1a bestPath1a weights1 freshWeights1 signs1 lengths1 sums1 nextSums1 bestFrom1 bestPath1 i1 rj_4 sums1_5 nextSums1_6 hc_7) (cwV 1 hts gX5_total_X1_totalOf rfl rfl rfl (by decide +kernel) ⟨Nat.le_of_ble_eq_true rfl, Nat.le_of_ble_eq_true rfl⟩) hK hP hD hS hA [1, 2, 3, 4, 5, 6, 7, 8, 9] [0] [0, 1, 2, 3, 4, 5, 6, 7, 8, 9] ⟨[(h5, .inr (4, [.ref h2, .ref h3, .ref h1, .ref h4]))], rfl, rfl, rfl, rfl, by decide, rfl, rfl⟩ 0 0 rfl rfl rfl rfl hl.1 rfl (Nat.le_of_ble_eq_true rfl) dX5_total_12 ⟨Nat.zero_le _, Nat.zero_le _⟩ (fun H locs hP hD hS => ?_)
    refine lv_goto (tgt := 21) hx hb dX5_total_15 (by decide) ?_
    cases h
    exact hret _ _ _ _ hP hD hS dX5_total_21
def f_X5_learn_L17 (i1 : Int32) (signs1 : Nat → Int32) (lengths1 : Nat → Int32) : Nat → Int32 → Int32 → (Nat → Int32) → (Nat → Int32) → (Nat → Int64) → (Nat → Int32) → Option (Int32 × Int32 × (Nat → Int32) × (Nat → Int32) × (Nat → Int64) × (Nat → Int32))
  | 0, _, _, _, _, _, _ => none
  | n + 1, y3_6, y2_7, weights1_8, freshWeights1_9, bestFrom1_10, bestPath1_11 =>
  if y3_6 = 0 then
    some (y3_6, y2_7, weights1_8, freshWeights1_9, bestFrom1_10, bestPath1_11)
  else
    if i1 ≤ y2_7 then
      some (y3_6, y2_7, weights1_8, freshWeights1_9, bestFrom1_10, bestPath1_11)
    else
      Option.bind (f_X1_weighAnew weights1_8 freshWeights1_9 signs1 lengths1 bestFrom1_10 bestPath1_11) fun (r_20, weights1_21, freshWeights1_22, bestFrom1_23, bestPath1_24) =>
      nm (α := Int32) (r_20) fun x3_26 =>
      nm (α := Int32) (y2_7 + 1) fun x2_27 =>
      f_X5_learn_L17 i1 signs1 lengths1 n x3_26 x2_27 weights1_21 freshWeights1_22 bestFrom1_23 bestPath1_24
def f_X5_learn (i1 : Int32) (weights1 : Nat → Int32) (freshWeights1 : Nat → Int32) (signs1 : Nat → Int32) (lengths1 : Nat → Int32) (bestFrom1 : Nat → Int64) (bestPath1 : Nat → Int32) : Option (Int32 × (Nat → Int32) × (Nat → Int32) × (Nat → Int64) × (Nat → Int32)) :=
  Option.bind (f_X5_isWithin i1 1 20) fun r_1 =>
  if r_1 = 0 then
    some ((-2), weights1, freshWeights1, bestFrom1, bestPath1)
  else
    nm (α := Int32) (0) fun x2_4 =>
    nm (α := Int32) (1) fun x3_5 =>
    Option.bind (f_X5_learn_L17 i1 signs1 lengths1 FU x3_5 x2_4 weights1 freshWeights1 bestFrom1 bestPath1) fun (z3_28, z2_29, weights1_30, freshWeights1_31, bestFrom1_32, bestPath1_33) =>
    some (z2_29, weights1_30, freshWeights1_31, bestFrom1_32, bestPath1_33)
set_option maxHeartbeats 4000000 in
set_option maxRecDepth 100000 in
theorem c_X5_learn (l : Launch) (D : va_G) (cI cJ : ClassId) (h5 h2 h3 h1 h4 weights1a freshWeights1a signs1a lengths1a sums1a nextSums1a bestFrom1a bestPath1a : Nat) (weights1 : Nat → Int32) (freshWeights1 : Nat → Int32) (signs1 : Nat → Int32) (lengths1 : Nat → Int32) (sums1 : Nat → Int64) (nextSums1 : Nat → Int64) (bestFrom1 : Nat → Int64) (bestPath1 : Nat → Int32) (i1 : Int32) (ret9 : Int32) (weights1z : Nat → Int32) (freshWeights1z : Nat → Int32) (bestFrom1z : Nat → Int64) (bestPath1z : Nat → Int32) (h : f_X5_learn i1 weights1 freshWeights1 signs1 lengths1 bestFrom1 bestPath1 = some (ret9, weights1z, freshWeights1z, bestFrom1z, bestPath1z)) : CI l D cI cJ yX5_learn wsX5_learn 5 116 [.ref h5, .int i1] (w5 h5 h2 h3 h1 h4 ++ w1 cI cJ h1 weights1a freshWeights1a signs1a lengths1a sums1a nextSums1a bestFrom1a bestPath1a weights1 freshWeights1 signs1 lengths1 sums1 nextSums1 bestFrom1 bestPath1) (w5 h5 h2 h3 h1 h4 ++ w1 cI cJ h1 weights1a freshWeights1a signs1a lengths1a sums1a nextSums1a bestFrom1a bestPath1a weights1z freshWeights1z signs1 lengths1 sums1 nextSums1 bestFrom1z bestPath1z) ret9 := by
  refine entI (cc := cX5_learn) (maxL := 4) (by decide) rfl (Nat.le_of_ble_eq_true rfl) ?_
  intro p e s m args below meth c ls A Q X hret
  obtain ⟨hx, hb, hml, hts, hown, hK, hA, hP, hD, hS, hl, hnm⟩ := X
  have hown : s.vm.findClass RX5 = some m.cls := hown
  have hl : lv_has ls 4 [(0, .ref h5), (1, .int i1)] := hl
  have hw1 : (Cond.fieldLink RX5 26 "CountLearners" "states" "LCountLearners$HiddenStates;").before args s = true := hts _ (by decide +kernel)
  have hinX5 : ∀ w ∈ wsX50, w ∈ wsX5_learn := by decide +kernel
  unfold f_X5_learn at h
  refine lv_iload_n hx hb dX5_learn_0 rfl (lv_at hl 1 rfl) ?_
  refine lv_iconst (v := 1) hx hb dX5_learn_1 (by decide) ?_
  refine lv_bipush (v := 20) hx hb dX5_learn_2 (by decide) ?_
  obtain ⟨r_1, hc_2, h⟩ := bd_s h
  refine callPi (As := [.int i1, .int 1, .int 20]) (rest := []) ⟨hx, hb, hml, hown, hts⟩ (c_X5_isWithin l D cI cJ i1 1 20 r_1 hc_2) (va_cwS 3 hts gX5_learn_X5_isWithin rfl rfl rfl (by decide +kernel) ⟨Nat.le_of_ble_eq_true rfl, Nat.le_of_ble_eq_true rfl⟩) hK hP hD hS hA rfl hl.1 rfl (Nat.le_of_ble_eq_true rfl) dX5_learn_4 ⟨Nat.zero_le _, Nat.zero_le _⟩ (fun H locs hP hD hS => ?_)
  refine lv_if_ne (tgt := 13) hx hb dX5_learn_7 (by decide) (fun c_3 => ?_) (fun c_3 => ?_)
  · have h := it_n c_3 h
    refine lv_iconst (v := 0) hx hb dX5_learn_13 (by decide) ?_
    refine lv_topi (fun x2_4 ex2_4 => ?_)
    have h := nm_s h x2_4 ex2_4
    refine lv_istore_n (lv' := [(2, .int x2_4), (0, .ref h5), (1, .int i1)]) hx hb dX5_learn_14 rfl hl (by decide) rfl (fun ls hl => ?_)
    refine lv_iconst (v := 1) hx hb dX5_learn_15 (by decide) ?_
    refine lv_topi (fun x3_5 ex3_5 => ?_)
    have h := nm_s h x3_5 ex3_5
    refine lv_istore_n (lv' := [(3, .int x3_5), (2, .int x2_4), (0, .ref h5), (1, .int i1)]) hx hb dX5_learn_16 rfl hl (by decide) rfl (fun ls hl => ?_)
    have L17 : ∀ (n : Nat) (y3_6 : Int32) (y2_7 : Int32) (weights1_8 : Nat → Int32) (freshWeights1_9 : Nat → Int32) (bestFrom1_10 : Nat → Int64) (bestPath1_11 : Nat → Int32) (z3_12 : Int32) (z2_13 : Int32) (weights1_14 : Nat → Int32) (freshWeights1_15 : Nat → Int32) (bestFrom1_16 : Nat → Int64) (bestPath1_17 : Nat → Int32), f_X5_learn_L17 i1 signs1 lengths1 n y3_6 y2_7 weights1_8 freshWeights1_9 bestFrom1_10 bestPath1_11 = some (z3_12, z2_13, weights1_14, freshWeights1_15, bestFrom1_16, bestPath1_17) → ∀ (H : Heap) (locs : List Loc) (ls : Array Slot), va_P D vwK (w5 h5 h2 h3 h1 h4 ++ w1 cI cJ h1 weights1a freshWeights1a signs1a lengths1a sums1a nextSums1a bestFrom1a bestPath1a weights1_8 freshWeights1_9 signs1 lengths1 sums1 nextSums1 bestFrom1_10 bestPath1_11) H → va_D A (w5 h5 h2 h3 h1 h4 ++ w1 cI cJ h1 weights1a freshWeights1a signs1a lengths1a sums1a nextSums1a bestFrom1a bestPath1a weights1_8 freshWeights1_9 signs1 lengths1 sums1 nextSums1 bestFrom1_10 bestPath1_11) → va_S A s.heap H locs → lv_has ls 4 [(3, .int y3_6), (2, .int y2_7), (0, .ref h5), (1, .int i1)] → (∀ (H : Heap) (locs : List Loc) (ls : Array Slot), va_P D vwK (w5 h5 h2 h3 h1 h4 ++ w1 cI cJ h1 weights1a freshWeights1a signs1a lengths1a sums1a nextSums1a bestFrom1a bestPath1a weights1_14 freshWeights1_15 signs1 lengths1 sums1 nextSums1 bestFrom1_16 bestPath1_17) H → va_D A (w5 h5 h2 h3 h1 h4 ++ w1 cI cJ h1 weights1a freshWeights1a signs1a lengths1a sums1a nextSums1a bestFrom1a bestPath1a weights1_14 freshWeights1_15 signs1 lengths1 sums1 nextSums1 bestFrom1_16 bestPath1_17) → va_S A s.heap H locs → lv_has ls 4 [(2, .int z2_13)] → W p l e (rmOf 5 116) s m args below meth c H locs 0 0 Q (F0 m 40 ls [])) → W p l e (rmOf 5 116) s m args below meth c H locs 0 0 Q (F0 m 17 ls []) := by
      intro n
      induction n with
      | zero => intro y3_6 y2_7 weights1_8 freshWeights1_9 bestFrom1_10 bestPath1_11 z3_12 z2_13 weights1_14 freshWeights1_15 bestFrom1_16 bestPath1_17 h; rw [f_X5_learn_L17.eq_1] at h; cases h
      | succ n ih =>
        intro y3_6 y2_7 weights1_8 freshWeights1_9 bestFrom1_10 bestPath1_11 z3_12 z2_13 weights1_14 freshWeights1_15 bestFrom1_16 bestPath1_17 h H locs ls hP hD hS hl K
        rw [f_X5_learn_L17.eq_2] at h
        refine lv_iload_n hx hb dX5_learn_17 rfl (lv_at hl 0 rfl) ?_
        refine lv_if_eq (tgt := 40) hx hb dX5_learn_18 (by decide) (fun c_18 => ?_) (fun c_18 => ?_)
        · have h := it_p c_18 h
          cases h
          exact K _ _ _ hP hD hS (lv_sub hl [1] rfl)
        · have h := it_n c_18 h
          refine lv_iload_n hx hb dX5_learn_21 rfl (lv_at hl 1 rfl) ?_
          refine lv_iload_n hx hb dX5_learn_22 rfl (lv_at hl 3 rfl) ?_
          refine lv_icmp_ge (tgt := 40) hx hb dX5_learn_23 (by decide) (fun c_19 => ?_) (fun c_19 => ?_)
          · have h := it_p c_19 h
            cases h
            exact K _ _ _ hP hD hS (lv_sub hl [1] rfl)
          · have h := it_n c_19 h
            refine lv_aload_n hx hb dX5_learn_26 rfl (lv_at hl 2 rfl) ?_
            refine va_get (D := D) (ci := 4) (v := .ref h1) (C := RX5) (T := TX5) (N := 4) hx hb hts hinX5 hown hK.1 hP 0 rfl rfl 2 (by decide) hw1 (fun _ h9 => h9) rfl dX5_learn_27 ?_
            obtain ⟨⟨r_20, weights1_21, freshWeights1_22, bestFrom1_23, bestPath1_24⟩, hc_25, h⟩ := bd_s h
            refine callVi (As := []) (rest := []) (ws2 := (w5 h5 h2 h3 h1 h4 ++ w1 cI cJ h1 weights1a freshWeights1a signs1a lengths1a sums1a nextSums1a bestFrom1a bestPath1a weights1_21 freshWeights1_22 signs1 lengths1 sums1 nextSums1 bestFrom1_23 bestPath1_24)) ⟨hx, hb, hml, hown, hts⟩ (c_X1_weighAnew l D cI cJ h1 weights1a freshWeights1a signs1a lengths1a sums1a nextSums1a bestFrom1a bestPath1a weights1_8 freshWeights1_9 signs1 lengths1 sums1 nextSums1 bestFrom1_10 bestPath1_11 r_20 weights1_21 freshWeights1_22 bestFrom1_23 bestPath1_24 hc_25) (cwV 0 hts gX5_learn_X1_weighAnew rfl rfl rfl (by decide +kernel) ⟨Nat.le_of_ble_eq_true rfl, Nat.le_of_ble_eq_true rfl⟩) hK hP hD hS hA [1, 2, 3, 4, 5, 6, 7, 8, 9] [0] [0, 1, 2, 3, 4, 5, 6, 7, 8, 9] ⟨[(h5, .inr (4, [.ref h2, .ref h3, .ref h1, .ref h4]))], rfl, rfl, rfl, rfl, by decide, rfl, rfl⟩ 0 0 rfl rfl rfl rfl hl.1 rfl (Nat.le_of_ble_eq_true rfl) dX5_learn_30 ⟨Nat.zero_le _, Nat.zero_le _⟩ (fun H locs hP hD hS => ?_)
            refine lv_topi (fun x3_26 ex3_26 => ?_)
            have h := nm_s h x3_26 ex3_26
            refine lv_istore_n (lv' := [(3, .int x3_26), (2, .int y2_7), (0, .ref h5), (1, .int i1)]) hx hb dX5_learn_33 rfl hl (by decide) rfl (fun ls hl => ?_)
            obtain ⟨x2_27, ex2_27⟩ : ∃ z : Int32, z = y2_7 + 1 := ⟨_, rfl⟩
            have h := nm_s h x2_27 ex2_27
            refine lv_iinc (v := x2_27) (lv' := [(2, .int x2_27), (3, .int x3_26), (0, .ref h5), (1, .int i1)]) hx hb dX5_learn_34 hl (k := 1) rfl (by rw [ex2_27]; rfl) (by decide) rfl (fun ls hl => ?_)
            refine lv_goto (tgt := 17) hx hb dX5_learn_37 (by decide) ?_
            exact ih _ _ _ _ _ _ _ _ _ _ _ _ h _ _ _ hP hD hS (lv_sub hl [1, 0, 2, 3] rfl) K
    obtain ⟨⟨z3_28, z2_29, weights1_30, freshWeights1_31, bestFrom1_32, bestPath1_33⟩, hl_34, h⟩ := bd_s h
    refine L17 FU x3_5 x2_4 weights1 freshWeights1 bestFrom1 bestPath1 _ _ _ _ _ _ hl_34 _ _ _ hP hD hS (lv_sub hl [0, 1, 2, 3] rfl) (fun H locs ls hP hD hS hl => ?_)
    refine lv_iload_n hx hb dX5_learn_40 rfl (lv_at hl 0 rfl) ?_
    cases h
    exact hret _ _ _ _ hP hD hS dX5_learn_41
  · have h := it_p c_3 h
    refine lv_bipush (v := (-2)) hx hb dX5_learn_10 (by decide) ?_
    cases h
    exact hret _ _ _ _ hP hD hS dX5_learn_12
def f_X5_rule (i1 : Int32) (i2 : Int32) (lengths2 : Nat → Int32) (words2 : Nat → Int32) (rowCount2 : Int32) (support4 : Nat → Int32) (having4 : Nat → Int32) (keys4 : Nat → Int32) (ruleCount4 : Int32) : Option (Int32 × (Nat → Int32) × (Nat → Int32) × (Nat → Int32) × Int32) :=
  Option.bind (f_X5_isWithin i2 0 4) fun r_1 =>
  if r_1 = 0 then
    some ((-2), support4, having4, keys4, ruleCount4)
  else
    Option.bind (f_X4_gather lengths2 words2 rowCount2 support4 having4 keys4 ruleCount4) fun (support4_4, having4_5, keys4_6, ruleCount4_7) =>
    Option.bind (f_X4_has i1 ruleCount4_7) fun r_9 =>
    if r_9 = 0 then
      some ((-1), support4_4, having4_5, keys4_6, ruleCount4_7)
    else
      Option.bind (f_X4_partOf i1 i2 support4_4 having4_5 keys4_6) fun r_12 =>
      some (r_12, support4_4, having4_5, keys4_6, ruleCount4_7)
set_option maxHeartbeats 4000000 in
set_option maxRecDepth 100000 in
theorem c_X5_rule (l : Launch) (D : va_G) (cI cJ : ClassId) (h5 h2 h3 h1 h4 labels2a guesses2a lengths2a words2a times2a totals2a sizes2a support4a having4a keys4a : Nat) (labels2 : Nat → Int32) (guesses2 : Nat → Int32) (lengths2 : Nat → Int32) (words2 : Nat → Int32) (times2 : Nat → Int32) (totals2 : Nat → Int32) (sizes2 : Nat → Int32) (rowCount2 : Int32) (addedUp2 : Int32) (addedDown2 : Int32) (support4 : Nat → Int32) (having4 : Nat → Int32) (keys4 : Nat → Int32) (ruleCount4 : Int32) (i1 : Int32) (i2 : Int32) (ret9 : Int32) (support4z : Nat → Int32) (having4z : Nat → Int32) (keys4z : Nat → Int32) (ruleCount4z : Int32) (h : f_X5_rule i1 i2 lengths2 words2 rowCount2 support4 having4 keys4 ruleCount4 = some (ret9, support4z, having4z, keys4z, ruleCount4z)) : CI l D cI cJ yX5_rule wsX5_rule 3 80 [.ref h5, .int i1, .int i2] (w5 h5 h2 h3 h1 h4 ++ w2 cI cJ h2 labels2a guesses2a lengths2a words2a times2a totals2a sizes2a labels2 guesses2 lengths2 words2 times2 totals2 sizes2 rowCount2 addedUp2 addedDown2 ++ w4 cI cJ h4 support4a having4a keys4a support4 having4 keys4 ruleCount4) (w5 h5 h2 h3 h1 h4 ++ w2 cI cJ h2 labels2a guesses2a lengths2a words2a times2a totals2a sizes2a labels2 guesses2 lengths2 words2 times2 totals2 sizes2 rowCount2 addedUp2 addedDown2 ++ w4 cI cJ h4 support4a having4a keys4a support4z having4z keys4z ruleCount4z) ret9 := by
  refine entI (cc := cX5_rule) (maxL := 3) (by decide) rfl (Nat.le_of_ble_eq_true rfl) ?_
  intro p e s m args below meth c ls A Q X hret
  obtain ⟨hx, hb, hml, hts, hown, hK, hA, hP, hD, hS, hl, hnm⟩ := X
  have hown : s.vm.findClass RX5 = some m.cls := hown
  have hl : lv_has ls 3 [(0, .ref h5), (1, .int i1), (2, .int i2)] := hl
  have hw1 : (Cond.fieldLink RX5 33 "CountLearners" "rules" "LCountLearners$WordRules;").before args s = true := hts _ (by decide +kernel)
  have hinX5 : ∀ w ∈ wsX50, w ∈ wsX5_rule := by decide +kernel
  have hw3 : (Cond.fieldLink RX5 10 "CountLearners" "rows" "LCountLearners$LabelledRows;").before args s = true := hts _ (by decide +kernel)
  unfold f_X5_rule at h
  refine lv_iload_n hx hb dX5_rule_0 rfl (lv_at hl 2 rfl) ?_
  refine lv_iconst (v := 0) hx hb dX5_rule_1 (by decide) ?_
  refine lv_iconst (v := 4) hx hb dX5_rule_2 (by decide) ?_
  obtain ⟨r_1, hc_2, h⟩ := bd_s h
  refine callPi (As := [.int i2, .int 0, .int 4]) (rest := []) ⟨hx, hb, hml, hown, hts⟩ (c_X5_isWithin l D cI cJ i2 0 4 r_1 hc_2) (va_cwS 3 hts gX5_rule_X5_isWithin rfl rfl rfl (by decide +kernel) ⟨Nat.le_of_ble_eq_true rfl, Nat.le_of_ble_eq_true rfl⟩) hK hP hD hS hA rfl hl.1 rfl (Nat.le_of_ble_eq_true rfl) dX5_rule_3 ⟨Nat.zero_le _, Nat.zero_le _⟩ (fun H locs hP hD hS => ?_)
  refine lv_if_ne (tgt := 12) hx hb dX5_rule_6 (by decide) (fun c_3 => ?_) (fun c_3 => ?_)
  · have h := it_n c_3 h
    refine lv_aload_n hx hb dX5_rule_12 rfl (lv_at hl 0 rfl) ?_
    refine va_get (D := D) (ci := 4) (v := .ref h4) (C := RX5) (T := TX5) (N := 4) hx hb hts hinX5 hown hK.1 hP 0 rfl rfl 3 (by decide) hw1 (fun _ h9 => h9) rfl dX5_rule_13 ?_
    refine lv_aload_n hx hb dX5_rule_16 rfl (lv_at hl 0 rfl) ?_
    refine va_get (D := D) (ci := 4) (v := .ref h2) (C := RX5) (T := TX5) (N := 4) hx hb hts hinX5 hown hK.1 hP 0 rfl rfl 0 (by decide) hw3 (fun _ h9 => h9) rfl dX5_rule_17 ?_
    obtain ⟨⟨support4_4, having4_5, keys4_6, ruleCount4_7⟩, hc_8, h⟩ := bd_s h
    refine callVv (As := [.ref h2]) (rest := []) (ws2 := (w5 h5 h2 h3 h1 h4 ++ w2 cI cJ h2 labels2a guesses2a lengths2a words2a times2a totals2a sizes2a labels2 guesses2 lengths2 words2 times2 totals2 sizes2 rowCount2 addedUp2 addedDown2 ++ w4 cI cJ h4 support4a having4a keys4a support4_4 having4_5 keys4_6 ruleCount4_7)) ⟨hx, hb, hml, hown, hts⟩ (c_X4_gather l D cI cJ h4 support4a having4a keys4a h2 labels2a guesses2a lengths2a words2a times2a totals2a sizes2a support4 having4 keys4 ruleCount4 labels2 guesses2 lengths2 words2 times2 totals2 sizes2 rowCount2 addedUp2 addedDown2 support4_4 having4_5 keys4_6 ruleCount4_7 hc_8) (cwV 1 hts gX5_rule_X4_gather rfl rfl rfl (by decide +kernel) ⟨Nat.le_of_ble_eq_true rfl, Nat.le_of_ble_eq_true rfl⟩) hK hP hD hS hA [9, 10, 11, 12, 1, 2, 3, 4, 5, 6, 7, 8] [0] [0, 5, 6, 7, 8, 9, 10, 11, 12, 1, 2, 3, 4] ⟨[(h5, .inr (4, [.ref h2, .ref h3, .ref h1, .ref h4]))], rfl, rfl, rfl, rfl, by decide, rfl, rfl⟩ 0 3 rfl rfl rfl rfl hl.1 rfl (Nat.le_of_ble_eq_true rfl) dX5_rule_20 ⟨Nat.zero_le _, Nat.zero_le _⟩ (fun H locs hP hD hS => ?_)
    refine lv_aload_n hx hb dX5_rule_23 rfl (lv_at hl 0 rfl) ?_
    refine va_get (D := D) (ci := 4) (v := .ref h4) (C := RX5) (T := TX5) (N := 4) hx hb hts hinX5 hown hK.1 hP 0 rfl rfl 3 (by decide) hw1 (fun _ h9 => h9) rfl dX5_rule_24 ?_
    refine lv_iload_n hx hb dX5_rule_27 rfl (lv_at hl 1 rfl) ?_
    obtain ⟨r_9, hc_10, h⟩ := bd_s h
    refine callVi (As := [.int i1]) (rest := []) (ws2 := (w5 h5 h2 h3 h1 h4 ++ w2 cI cJ h2 labels2a guesses2a lengths2a words2a times2a totals2a sizes2a labels2 guesses2 lengths2 words2 times2 totals2 sizes2 rowCount2 addedUp2 addedDown2 ++ w4 cI cJ h4 support4a having4a keys4a support4_4 having4_5 keys4_6 ruleCount4_7)) ⟨hx, hb, hml, hown, hts⟩ (c_X4_has l D cI cJ h4 support4a having4a keys4a support4_4 having4_5 keys4_6 ruleCount4_7 i1 r_9 hc_10) (cwV 1 hts gX5_rule_X4_has rfl rfl rfl (by decide +kernel) ⟨Nat.le_of_ble_eq_true rfl, Nat.le_of_ble_eq_true rfl⟩) hK hP hD hS hA [9, 10, 11, 12] [0, 1, 2, 3, 4, 5, 6, 7, 8] [0, 1, 2, 3, 4, 5, 6, 7, 8, 9, 10, 11, 12] ⟨[(h5, .inr (4, [.ref h2, .ref h3, .ref h1, .ref h4])), (h2, .inr (1, [.ref labels2a, .ref guesses2a, .ref lengths2a, .ref words2a, .ref times2a, .ref totals2a, .ref sizes2a, .int rowCount2, .int addedUp2, .int addedDown2])), (labels2a, .inl (cI, 40, .inl labels2)), (guesses2a, .inl (cI, 40, .inl guesses2)), (lengths2a, .inl (cI, 40, .inl lengths2)), (words2a, .inl (cI, 240, .inl words2)), (times2a, .inl (cI, 32, .inl times2)), (totals2a, .inl (cI, 4, .inl totals2)), (sizes2a, .inl (cI, 4, .inl sizes2))], rfl, rfl, rfl, rfl, by decide, rfl, rfl⟩ 0 3 rfl rfl rfl rfl hl.1 rfl (Nat.le_of_ble_eq_true rfl) dX5_rule_28 ⟨Nat.zero_le _, Nat.zero_le _⟩ (fun H locs hP hD hS => ?_)
    refine lv_if_eq (tgt := 46) hx hb dX5_rule_31 (by decide) (fun c_11 => ?_) (fun c_11 => ?_)
    · have h := it_p c_11 h
      refine lv_iconst (v := (-1)) hx hb dX5_rule_46 (by decide) ?_
      cases h
      exact hret _ _ _ _ hP hD hS dX5_rule_47
    · have h := it_n c_11 h
      refine lv_aload_n hx hb dX5_rule_34 rfl (lv_at hl 0 rfl) ?_
      refine va_get (D := D) (ci := 4) (v := .ref h4) (C := RX5) (T := TX5) (N := 4) hx hb hts hinX5 hown hK.1 hP 0 rfl rfl 3 (by decide) hw1 (fun _ h9 => h9) rfl dX5_rule_35 ?_
      refine lv_iload_n hx hb dX5_rule_38 rfl (lv_at hl 1 rfl) ?_
      refine lv_iload_n hx hb dX5_rule_39 rfl (lv_at hl 2 rfl) ?_
      obtain ⟨r_12, hc_13, h⟩ := bd_s h
      refine callVi (As := [.int i1, .int i2]) (rest := []) (ws2 := (w5 h5 h2 h3 h1 h4 ++ w2 cI cJ h2 labels2a guesses2a lengths2a words2a times2a totals2a sizes2a labels2 guesses2 lengths2 words2 times2 totals2 sizes2 rowCount2 addedUp2 addedDown2 ++ w4 cI cJ h4 support4a having4a keys4a support4_4 having4_5 keys4_6 ruleCount4_7)) ⟨hx, hb, hml, hown, hts⟩ (c_X4_partOf l D cI cJ h4 support4a having4a keys4a support4_4 having4_5 keys4_6 ruleCount4_7 i1 i2 r_12 hc_13) (cwV 2 hts gX5_rule_X4_partOf rfl rfl rfl (by decide +kernel) ⟨Nat.le_of_ble_eq_true rfl, Nat.le_of_ble_eq_true rfl⟩) hK hP hD hS hA [9, 10, 11, 12] [0, 1, 2, 3, 4, 5, 6, 7, 8] [0, 1, 2, 3, 4, 5, 6, 7, 8, 9, 10, 11, 12] ⟨[(h5, .inr (4, [.ref h2, .ref h3, .ref h1, .ref h4])), (h2, .inr (1, [.ref labels2a, .ref guesses2a, .ref lengths2a, .ref words2a, .ref times2a, .ref totals2a, .ref sizes2a, .int rowCount2, .int addedUp2, .int addedDown2])), (labels2a, .inl (cI, 40, .inl labels2)), (guesses2a, .inl (cI, 40, .inl guesses2)), (lengths2a, .inl (cI, 40, .inl lengths2)), (words2a, .inl (cI, 240, .inl words2)), (times2a, .inl (cI, 32, .inl times2)), (totals2a, .inl (cI, 4, .inl totals2)), (sizes2a, .inl (cI, 4, .inl sizes2))], rfl, rfl, rfl, rfl, by decide, rfl, rfl⟩ 0 3 rfl rfl rfl rfl hl.1 rfl (Nat.le_of_ble_eq_true rfl) dX5_rule_40 ⟨Nat.zero_le _, Nat.zero_le _⟩ (fun H locs hP hD hS => ?_)
      refine lv_goto (tgt := 47) hx hb dX5_rule_43 (by decide) ?_
      cases h
      exact hret _ _ _ _ hP hD hS dX5_rule_47
  · have h := it_p c_3 h
    refine lv_bipush (v := (-2)) hx hb dX5_rule_9 (by decide) ?_
    cases h
    exact hret _ _ _ _ hP hD hS dX5_rule_11
def f_X5_count (i1 : Int32) (lengths1 : Nat → Int32) (labels2 : Nat → Int32) (lengths2 : Nat → Int32) (words2 : Nat → Int32) (rowCount2 : Int32) (textLength3 : Int32) (support4 : Nat → Int32) (having4 : Nat → Int32) (keys4 : Nat → Int32) (ruleCount4 : Int32) : Option (Int32 × (Nat → Int32) × (Nat → Int32) × (Nat → Int32) × Int32) :=
  if i1 = 0 then
    Option.bind (f_X2_size rowCount2) fun r_2 =>
    some (r_2, support4, having4, keys4, ruleCount4)
  else
    if i1 = 1 then
      Option.bind (f_X2_labelledRows labels2 rowCount2) fun r_5 =>
      some (r_5, support4, having4, keys4, ruleCount4)
    else
      if i1 = 2 then
        Option.bind (f_X3_length textLength3) fun r_8 =>
        some (r_8, support4, having4, keys4, ruleCount4)
      else
        if i1 = 3 then
          Option.bind (f_X4_gather lengths2 words2 rowCount2 support4 having4 keys4 ruleCount4) fun (support4_11, having4_12, keys4_13, ruleCount4_14) =>
          Option.bind (f_X4_size ruleCount4_14) fun r_16 =>
          some (r_16, support4_11, having4_12, keys4_13, ruleCount4_14)
        else
          if i1 = 4 then
            Option.bind (f_X1_signsOfAll lengths1) fun r_19 =>
            some (r_19, support4, having4, keys4, ruleCount4)
          else
            some ((-2), support4, having4, keys4, ruleCount4)
set_option maxHeartbeats 4000000 in
set_option maxRecDepth 100000 in
theorem c_X5_count (l : Launch) (D : va_G) (cI cJ : ClassId) (h5 h2 h3 h1 h4 weights1a freshWeights1a signs1a lengths1a sums1a nextSums1a bestFrom1a bestPath1a labels2a guesses2a lengths2a words2a times2a totals2a sizes2a text3a behind3a uppers3a support4a having4a keys4a : Nat) (weights1 : Nat → Int32) (freshWeights1 : Nat → Int32) (signs1 : Nat → Int32) (lengths1 : Nat → Int32) (sums1 : Nat → Int64) (nextSums1 : Nat → Int64) (bestFrom1 : Nat → Int64) (bestPath1 : Nat → Int32) (labels2 : Nat → Int32) (guesses2 : Nat → Int32) (lengths2 : Nat → Int32) (words2 : Nat → Int32) (times2 : Nat → Int32) (totals2 : Nat → Int32) (sizes2 : Nat → Int32) (rowCount2 : Int32) (addedUp2 : Int32) (addedDown2 : Int32) (text3 : Nat → Int32) (behind3 : Nat → Int32) (uppers3 : Nat → Int64) (lower3 : Int64) (textLength3 : Int32) (support4 : Nat → Int32) (having4 : Nat → Int32) (keys4 : Nat → Int32) (ruleCount4 : Int32) (i1 : Int32) (ret9 : Int32) (support4z : Nat → Int32) (having4z : Nat → Int32) (keys4z : Nat → Int32) (ruleCount4z : Int32) (h : f_X5_count i1 lengths1 labels2 lengths2 words2 rowCount2 textLength3 support4 having4 keys4 ruleCount4 = some (ret9, support4z, having4z, keys4z, ruleCount4z)) : CI l D cI cJ yX5_count wsX5_count 3 67 [.ref h5, .int i1] (w5 h5 h2 h3 h1 h4 ++ w1 cI cJ h1 weights1a freshWeights1a signs1a lengths1a sums1a nextSums1a bestFrom1a bestPath1a weights1 freshWeights1 signs1 lengths1 sums1 nextSums1 bestFrom1 bestPath1 ++ w2 cI cJ h2 labels2a guesses2a lengths2a words2a times2a totals2a sizes2a labels2 guesses2 lengths2 words2 times2 totals2 sizes2 rowCount2 addedUp2 addedDown2 ++ w3 cI cJ h3 text3a behind3a uppers3a text3 behind3 uppers3 lower3 textLength3 ++ w4 cI cJ h4 support4a having4a keys4a support4 having4 keys4 ruleCount4) (w5 h5 h2 h3 h1 h4 ++ w1 cI cJ h1 weights1a freshWeights1a signs1a lengths1a sums1a nextSums1a bestFrom1a bestPath1a weights1 freshWeights1 signs1 lengths1 sums1 nextSums1 bestFrom1 bestPath1 ++ w2 cI cJ h2 labels2a guesses2a lengths2a words2a times2a totals2a sizes2a labels2 guesses2 lengths2 words2 times2 totals2 sizes2 rowCount2 addedUp2 addedDown2 ++ w3 cI cJ h3 text3a behind3a uppers3a text3 behind3 uppers3 lower3 textLength3 ++ w4 cI cJ h4 support4a having4a keys4a support4z having4z keys4z ruleCount4z) ret9 := by
  refine entI (cc := cX5_count) (maxL := 2) (by decide) rfl (Nat.le_of_ble_eq_true rfl) ?_
  intro p e s m args below meth c ls A Q X hret
  obtain ⟨hx, hb, hml, hts, hown, hK, hA, hP, hD, hS, hl, hnm⟩ := X
  have hown : s.vm.findClass RX5 = some m.cls := hown
  have hl : lv_has ls 2 [(0, .ref h5), (1, .int i1)] := hl
  have hw1 : (Cond.fieldLink RX5 10 "CountLearners" "rows" "LCountLearners$LabelledRows;").before args s = true := hts _ (by decide +kernel)
  have hinX5 : ∀ w ∈ wsX50, w ∈ wsX5_count := by decide +kernel
  have hw3 : (Cond.fieldLink RX5 19 "CountLearners" "tables" "LCountLearners$TextTables;").before args s = true := hts _ (by decide +kernel)
  have hw4 : (Cond.fieldLink RX5 33 "CountLearners" "rules" "LCountLearners$WordRules;").before args s = true := hts _ (by decide +kernel)
  have hw5 : (Cond.fieldLink RX5 26 "CountLearners" "states" "LCountLearners$HiddenStates;").before args s = true := hts _ (by decide +kernel)
  unfold f_X5_count at h
  refine lv_iload_n hx hb dX5_count_0 rfl (lv_at hl 1 rfl) ?_
  by_cases c_1 : i1 = 0
  · have h := it_p c_1 h
    refine lv_tableIn (off := 35) (tgt := 36) hx hb dX5_count_1 (by rw [c_1]; decide) (by rw [c_1]; decide) (by rw [c_1]; rfl) (by decide) ?_
    refine lv_aload_n hx hb dX5_count_36 rfl (lv_at hl 0 rfl) ?_
    refine va_get (D := D) (ci := 4) (v := .ref h2) (C := RX5) (T := TX5) (N := 4) hx hb hts hinX5 hown hK.1 hP 0 rfl rfl 0 (by decide) hw1 (fun _ h9 => h9) rfl dX5_count_37 ?_
    obtain ⟨r_2, hc_3, h⟩ := bd_s h
    refine callVi (As := []) (rest := []) (ws2 := (w5 h5 h2 h3 h1 h4 ++ w1 cI cJ h1 weights1a freshWeights1a signs1a lengths1a sums1a nextSums1a bestFrom1a bestPath1a weights1 freshWeights1 signs1 lengths1 sums1 nextSums1 bestFrom1 bestPath1 ++ w2 cI cJ h2 labels2a guesses2a lengths2a words2a times2a totals2a sizes2a labels2 guesses2 lengths2 words2 times2 totals2 sizes2 rowCount2 addedUp2 addedDown2 ++ w3 cI cJ h3 text3a behind3a uppers3a text3 behind3 uppers3 lower3 textLength3 ++ w4 cI cJ h4 support4a having4a keys4a support4 having4 keys4 ruleCount4)) ⟨hx, hb, hml, hown, hts⟩ (c_X2_size l D cI cJ h2 labels2a guesses2a lengths2a words2a times2a totals2a sizes2a labels2 guesses2 lengths2 words2 times2 totals2 sizes2 rowCount2 addedUp2 addedDown2 r_2 hc_3) (cwV 0 hts gX5_count_X2_size rfl rfl rfl (by decide +kernel) ⟨Nat.le_of_ble_eq_true rfl, Nat.le_of_ble_eq_true rfl⟩) hK hP hD hS hA [10, 11, 12, 13, 14, 15, 16, 17] [0, 1, 2, 3, 4, 5, 6, 7, 8, 9, 18, 19, 20, 21, 22, 23, 24, 25] [0, 1, 2, 3, 4, 5, 6, 7, 8, 9, 18, 19, 20, 21, 22, 23, 24, 25, 10, 11, 12, 13, 14, 15, 16, 17] ⟨[(h5, .inr (4, [.ref h2, .ref h3, .ref h1, .ref h4])), (h1, .inr (0, [.ref weights1a, .ref freshWeights1a, .ref signs1a, .ref lengths1a, .ref sums1a, .ref nextSums1a, .ref bestFrom1a, .ref bestPath1a])), (weights1a, .inl (cI, 36, .inl weights1)), (freshWeights1a, .inl (cI, 36, .inl freshWeights1)), (signs1a, .inl (cI, 20, .inl signs1)), (lengths1a, .inl (cI, 4, .inl lengths1)), (sums1a, .inl (cJ, 4, .inr (.inl sums1))), (nextSums1a, .inl (cJ, 4, .inr (.inl nextSums1))), (bestFrom1a, .inl (cJ, 20, .inr (.inl bestFrom1))), (bestPath1a, .inl (cI, 5, .inl bestPath1)), (h3, .inr (2, [.ref text3a, .ref behind3a, .ref uppers3a, .long lower3, .int textLength3])), (text3a, .inl (cI, 60, .inl text3)), (behind3a, .inl (cI, 8, .inl behind3)), (uppers3a, .inl (cJ, 8, .inr (.inl uppers3))), (h4, .inr (3, [.ref support4a, .ref having4a, .ref keys4a, .int ruleCount4])), (support4a, .inl (cI, 64, .inl support4)), (having4a, .inl (cI, 8, .inl having4)), (keys4a, .inl (cI, 56, .inl keys4))], rfl, rfl, rfl, rfl, by decide, rfl, rfl⟩ 0 1 rfl rfl rfl rfl hl.1 rfl (Nat.le_of_ble_eq_true rfl) dX5_count_40 ⟨Nat.zero_le _, Nat.zero_le _⟩ (fun H locs hP hD hS => ?_)
    cases h
    exact hret _ _ _ _ hP hD hS dX5_count_43
  · have h := it_n c_1 h
    by_cases c_4 : i1 = 1
    · have h := it_p c_4 h
      refine lv_tableIn (off := 43) (tgt := 44) hx hb dX5_count_1 (by rw [c_4]; decide) (by rw [c_4]; decide) (by rw [c_4]; rfl) (by decide) ?_
      refine lv_aload_n hx hb dX5_count_44 rfl (lv_at hl 0 rfl) ?_
      refine va_get (D := D) (ci := 4) (v := .ref h2) (C := RX5) (T := TX5) (N := 4) hx hb hts hinX5 hown hK.1 hP 0 rfl rfl 0 (by decide) hw1 (fun _ h9 => h9) rfl dX5_count_45 ?_
      obtain ⟨r_5, hc_6, h⟩ := bd_s h
      refine callVi (As := []) (rest := []) (ws2 := (w5 h5 h2 h3 h1 h4 ++ w1 cI cJ h1 weights1a freshWeights1a signs1a lengths1a sums1a nextSums1a bestFrom1a bestPath1a weights1 freshWeights1 signs1 lengths1 sums1 nextSums1 bestFrom1 bestPath1 ++ w2 cI cJ h2 labels2a guesses2a lengths2a words2a times2a totals2a sizes2a labels2 guesses2 lengths2 words2 times2 totals2 sizes2 rowCount2 addedUp2 addedDown2 ++ w3 cI cJ h3 text3a behind3a uppers3a text3 behind3 uppers3 lower3 textLength3 ++ w4 cI cJ h4 support4a having4a keys4a support4 having4 keys4 ruleCount4)) ⟨hx, hb, hml, hown, hts⟩ (c_X2_labelledRows l D cI cJ h2 labels2a guesses2a lengths2a words2a times2a totals2a sizes2a labels2 guesses2 lengths2 words2 times2 totals2 sizes2 rowCount2 addedUp2 addedDown2 r_5 hc_6) (cwV 0 hts gX5_count_X2_labelledRows rfl rfl rfl (by decide +kernel) ⟨Nat.le_of_ble_eq_true rfl, Nat.le_of_ble_eq_true rfl⟩) hK hP hD hS hA [10, 11, 12, 13, 14, 15, 16, 17] [0, 1, 2, 3, 4, 5, 6, 7, 8, 9, 18, 19, 20, 21, 22, 23, 24, 25] [0, 1, 2, 3, 4, 5, 6, 7, 8, 9, 18, 19, 20, 21, 22, 23, 24, 25, 10, 11, 12, 13, 14, 15, 16, 17] ⟨[(h5, .inr (4, [.ref h2, .ref h3, .ref h1, .ref h4])), (h1, .inr (0, [.ref weights1a, .ref freshWeights1a, .ref signs1a, .ref lengths1a, .ref sums1a, .ref nextSums1a, .ref bestFrom1a, .ref bestPath1a])), (weights1a, .inl (cI, 36, .inl weights1)), (freshWeights1a, .inl (cI, 36, .inl freshWeights1)), (signs1a, .inl (cI, 20, .inl signs1)), (lengths1a, .inl (cI, 4, .inl lengths1)), (sums1a, .inl (cJ, 4, .inr (.inl sums1))), (nextSums1a, .inl (cJ, 4, .inr (.inl nextSums1))), (bestFrom1a, .inl (cJ, 20, .inr (.inl bestFrom1))), (bestPath1a, .inl (cI, 5, .inl bestPath1)), (h3, .inr (2, [.ref text3a, .ref behind3a, .ref uppers3a, .long lower3, .int textLength3])), (text3a, .inl (cI, 60, .inl text3)), (behind3a, .inl (cI, 8, .inl behind3)), (uppers3a, .inl (cJ, 8, .inr (.inl uppers3))), (h4, .inr (3, [.ref support4a, .ref having4a, .ref keys4a, .int ruleCount4])), (support4a, .inl (cI, 64, .inl support4)), (having4a, .inl (cI, 8, .inl having4)), (keys4a, .inl (cI, 56, .inl keys4))], rfl, rfl, rfl, rfl, by decide, rfl, rfl⟩ 0 1 rfl rfl rfl rfl hl.1 rfl (Nat.le_of_ble_eq_true rfl) dX5_count_48 ⟨Nat.zero_le _, Nat.zero_le _⟩ (fun H locs hP hD hS => ?_)
      cases h
      exact hret _ _ _ _ hP hD hS dX5_count_51
    · have h := it_n c_4 h
      by_cases c_7 : i1 = 2
      · have h := it_p c_7 h
        refine lv_tableIn (off := 51) (tgt := 52) hx hb dX5_count_1 (by rw [c_7]; decide) (by rw [c_7]; decide) (by rw [c_7]; rfl) (by decide) ?_
        refine lv_aload_n hx hb dX5_count_52 rfl (lv_at hl 0 rfl) ?_
        refine va_get (D := D) (ci := 4) (v := .ref h3) (C := RX5) (T := TX5) (N := 4) hx hb hts hinX5 hown hK.1 hP 0 rfl rfl 1 (by decide) hw3 (fun _ h9 => h9) rfl dX5_count_53 ?_
        obtain ⟨r_8, hc_9, h⟩ := bd_s h
        refine callVi (As := []) (rest := []) (ws2 := (w5 h5 h2 h3 h1 h4 ++ w1 cI cJ h1 weights1a freshWeights1a signs1a lengths1a sums1a nextSums1a bestFrom1a bestPath1a weights1 freshWeights1 signs1 lengths1 sums1 nextSums1 bestFrom1 bestPath1 ++ w2 cI cJ h2 labels2a guesses2a lengths2a words2a times2a totals2a sizes2a labels2 guesses2 lengths2 words2 times2 totals2 sizes2 rowCount2 addedUp2 addedDown2 ++ w3 cI cJ h3 text3a behind3a uppers3a text3 behind3 uppers3 lower3 textLength3 ++ w4 cI cJ h4 support4a having4a keys4a support4 having4 keys4 ruleCount4)) ⟨hx, hb, hml, hown, hts⟩ (c_X3_length l D cI cJ h3 text3a behind3a uppers3a text3 behind3 uppers3 lower3 textLength3 r_8 hc_9) (cwV 0 hts gX5_count_X3_length rfl rfl rfl (by decide +kernel) ⟨Nat.le_of_ble_eq_true rfl, Nat.le_of_ble_eq_true rfl⟩) hK hP hD hS hA [18, 19, 20, 21] [0, 1, 2, 3, 4, 5, 6, 7, 8, 9, 10, 11, 12, 13, 14, 15, 16, 17, 22, 23, 24, 25] [0, 1, 2, 3, 4, 5, 6, 7, 8, 9, 10, 11, 12, 13, 14, 15, 16, 17, 22, 23, 24, 25, 18, 19, 20, 21] ⟨[(h5, .inr (4, [.ref h2, .ref h3, .ref h1, .ref h4])), (h1, .inr (0, [.ref weights1a, .ref freshWeights1a, .ref signs1a, .ref lengths1a, .ref sums1a, .ref nextSums1a, .ref bestFrom1a, .ref bestPath1a])), (weights1a, .inl (cI, 36, .inl weights1)), (freshWeights1a, .inl (cI, 36, .inl freshWeights1)), (signs1a, .inl (cI, 20, .inl signs1)), (lengths1a, .inl (cI, 4, .inl lengths1)), (sums1a, .inl (cJ, 4, .inr (.inl sums1))), (nextSums1a, .inl (cJ, 4, .inr (.inl nextSums1))), (bestFrom1a, .inl (cJ, 20, .inr (.inl bestFrom1))), (bestPath1a, .inl (cI, 5, .inl bestPath1)), (h2, .inr (1, [.ref labels2a, .ref guesses2a, .ref lengths2a, .ref words2a, .ref times2a, .ref totals2a, .ref sizes2a, .int rowCount2, .int addedUp2, .int addedDown2])), (labels2a, .inl (cI, 40, .inl labels2)), (guesses2a, .inl (cI, 40, .inl guesses2)), (lengths2a, .inl (cI, 40, .inl lengths2)), (words2a, .inl (cI, 240, .inl words2)), (times2a, .inl (cI, 32, .inl times2)), (totals2a, .inl (cI, 4, .inl totals2)), (sizes2a, .inl (cI, 4, .inl sizes2)), (h4, .inr (3, [.ref support4a, .ref having4a, .ref keys4a, .int ruleCount4])), (support4a, .inl (cI, 64, .inl support4)), (having4a, .inl (cI, 8, .inl having4)), (keys4a, .inl (cI, 56, .inl keys4))], rfl, rfl, rfl, rfl, by decide, rfl, rfl⟩ 0 2 rfl rfl rfl rfl hl.1 rfl (Nat.le_of_ble_eq_true rfl) dX5_count_56 ⟨Nat.zero_le _, Nat.zero_le _⟩ (fun H locs hP hD hS => ?_)
        cases h
        exact hret _ _ _ _ hP hD hS dX5_count_59
      · have h := it_n c_7 h
        by_cases c_10 : i1 = 3
        · have h := it_p c_10 h
          refine lv_tableIn (off := 59) (tgt := 60) hx hb dX5_count_1 (by rw [c_10]; decide) (by rw [c_10]; decide) (by rw [c_10]; rfl) (by decide) ?_
          refine lv_aload_n hx hb dX5_count_60 rfl (lv_at hl 0 rfl) ?_
          refine va_get (D := D) (ci := 4) (v := .ref h4) (C := RX5) (T := TX5) (N := 4) hx hb hts hinX5 hown hK.1 hP 0 rfl rfl 3 (by decide) hw4 (fun _ h9 => h9) rfl dX5_count_61 ?_
          refine lv_aload_n hx hb dX5_count_64 rfl (lv_at hl 0 rfl) ?_
          refine va_get (D := D) (ci := 4) (v := .ref h2) (C := RX5) (T := TX5) (N := 4) hx hb hts hinX5 hown hK.1 hP 0 rfl rfl 0 (by decide) hw1 (fun _ h9 => h9) rfl dX5_count_65 ?_
          obtain ⟨⟨support4_11, having4_12, keys4_13, ruleCount4_14⟩, hc_15, h⟩ := bd_s h
          refine callVv (As := [.ref h2]) (rest := []) (ws2 := (w5 h5 h2 h3 h1 h4 ++ w1 cI cJ h1 weights1a freshWeights1a signs1a lengths1a sums1a nextSums1a bestFrom1a bestPath1a weights1 freshWeights1 signs1 lengths1 sums1 nextSums1 bestFrom1 bestPath1 ++ w2 cI cJ h2 labels2a guesses2a lengths2a words2a times2a totals2a sizes2a labels2 guesses2 lengths2 words2 times2 totals2 sizes2 rowCount2 addedUp2 addedDown2 ++ w3 cI cJ h3 text3a behind3a uppers3a text3 behind3 uppers3 lower3 textLength3 ++ w4 cI cJ h4 support4a having4a keys4a support4_11 having4_12 keys4_13 ruleCount4_14)) ⟨hx, hb, hml, hown, hts⟩ (c_X4_gather l D cI cJ h4 support4a having4a keys4a h2 labels2a guesses2a lengths2a words2a times2a totals2a sizes2a support4 having4 keys4 ruleCount4 labels2 guesses2 lengths2 words2 times2 totals2 sizes2 rowCount2 addedUp2 addedDown2 support4_11 having4_12 keys4_13 ruleCount4_14 hc_15) (cwV 1 hts gX5_count_X4_gather rfl rfl rfl (by decide +kernel) ⟨Nat.le_of_ble_eq_true rfl, Nat.le_of_ble_eq_true rfl⟩) hK hP hD hS hA [22, 23, 24, 25, 10, 11, 12, 13, 14, 15, 16, 17] [0, 1, 2, 3, 4, 5, 6, 7, 8, 9, 18, 19, 20, 21] [0, 1, 2, 3, 4, 5, 6, 7, 8, 9, 18, 19, 20, 21, 22, 23, 24, 25, 10, 11, 12, 13, 14, 15, 16, 17] ⟨[(h5, .inr (4, [.ref h2, .ref h3, .ref h1, .ref h4])), (h1, .inr (0, [.ref weights1a, .ref freshWeights1a, .ref signs1a, .ref lengths1a, .ref sums1a, .ref nextSums1a, .ref bestFrom1a, .ref bestPath1a])), (weights1a, .inl (cI, 36, .inl weights1)), (freshWeights1a, .inl (cI, 36, .inl freshWeights1)), (signs1a, .inl (cI, 20, .inl signs1)), (lengths1a, .inl (cI, 4, .inl lengths1)), (sums1a, .inl (cJ, 4, .inr (.inl sums1))), (nextSums1a, .inl (cJ, 4, .inr (.inl nextSums1))), (bestFrom1a, .inl (cJ, 20, .inr (.inl bestFrom1))), (bestPath1a, .inl (cI, 5, .inl bestPath1)), (h3, .inr (2, [.ref text3a, .ref behind3a, .ref uppers3a, .long lower3, .int textLength3])), (text3a, .inl (cI, 60, .inl text3)), (behind3a, .inl (cI, 8, .inl behind3)), (uppers3a, .inl (cJ, 8, .inr (.inl uppers3)))], rfl, rfl, rfl, rfl, by decide, rfl, rfl⟩ 0 3 rfl rfl rfl rfl hl.1 rfl (Nat.le_of_ble_eq_true rfl) dX5_count_68 ⟨Nat.zero_le _, Nat.zero_le _⟩ (fun H locs hP hD hS => ?_)
          refine lv_aload_n hx hb dX5_count_71 rfl (lv_at hl 0 rfl) ?_
          refine va_get (D := D) (ci := 4) (v := .ref h4) (C := RX5) (T := TX5) (N := 4) hx hb hts hinX5 hown hK.1 hP 0 rfl rfl 3 (by decide) hw4 (fun _ h9 => h9) rfl dX5_count_72 ?_
          obtain ⟨r_16, hc_17, h⟩ := bd_s h
          refine callVi (As := []) (rest := []) (ws2 := (w5 h5 h2 h3 h1 h4 ++ w1 cI cJ h1 weights1a freshWeights1a signs1a lengths1a sums1a nextSums1a bestFrom1a bestPath1a weights1 freshWeights1 signs1 lengths1 sums1 nextSums1 bestFrom1 bestPath1 ++ w2 cI cJ h2 labels2a guesses2a lengths2a words2a times2a totals2a sizes2a labels2 guesses2 lengths2 words2 times2 totals2 sizes2 rowCount2 addedUp2 addedDown2 ++ w3 cI cJ h3 text3a behind3a uppers3a text3 behind3 uppers3 lower3 textLength3 ++ w4 cI cJ h4 support4a having4a keys4a support4_11 having4_12 keys4_13 ruleCount4_14)) ⟨hx, hb, hml, hown, hts⟩ (c_X4_size l D cI cJ h4 support4a having4a keys4a support4_11 having4_12 keys4_13 ruleCount4_14 r_16 hc_17) (cwV 0 hts gX5_count_X4_size rfl rfl rfl (by decide +kernel) ⟨Nat.le_of_ble_eq_true rfl, Nat.le_of_ble_eq_true rfl⟩) hK hP hD hS hA [22, 23, 24, 25] [0, 1, 2, 3, 4, 5, 6, 7, 8, 9, 10, 11, 12, 13, 14, 15, 16, 17, 18, 19, 20, 21] [0, 1, 2, 3, 4, 5, 6, 7, 8, 9, 10, 11, 12, 13, 14, 15, 16, 17, 18, 19, 20, 21, 22, 23, 24, 25] ⟨[(h5, .inr (4, [.ref h2, .ref h3, .ref h1, .ref h4])), (h1, .inr (0, [.ref weights1a, .ref freshWeights1a, .ref signs1a, .ref lengths1a, .ref sums1a, .ref nextSums1a, .ref bestFrom1a, .ref bestPath1a])), (weights1a, .inl (cI, 36, .inl weights1)), (freshWeights1a, .inl (cI, 36, .inl freshWeights1)), (signs1a, .inl (cI, 20, .inl signs1)), (lengths1a, .inl (cI, 4, .inl lengths1)), (sums1a, .inl (cJ, 4, .inr (.inl sums1))), (nextSums1a, .inl (cJ, 4, .inr (.inl nextSums1))), (bestFrom1a, .inl (cJ, 20, .inr (.inl bestFrom1))), (bestPath1a, .inl (cI, 5, .inl bestPath1)), (h2, .inr (1, [.ref labels2a, .ref guesses2a, .ref lengths2a, .ref words2a, .ref times2a, .ref totals2a, .ref sizes2a, .int rowCount2, .int addedUp2, .int addedDown2])), (labels2a, .inl (cI, 40, .inl labels2)), (guesses2a, .inl (cI, 40, .inl guesses2)), (lengths2a, .inl (cI, 40, .inl lengths2)), (words2a, .inl (cI, 240, .inl words2)), (times2a, .inl (cI, 32, .inl times2)), (totals2a, .inl (cI, 4, .inl totals2)), (sizes2a, .inl (cI, 4, .inl sizes2)), (h3, .inr (2, [.ref text3a, .ref behind3a, .ref uppers3a, .long lower3, .int textLength3])), (text3a, .inl (cI, 60, .inl text3)), (behind3a, .inl (cI, 8, .inl behind3)), (uppers3a, .inl (cJ, 8, .inr (.inl uppers3)))], rfl, rfl, rfl, rfl, by decide, rfl, rfl⟩ 0 3 rfl rfl rfl rfl hl.1 rfl (Nat.le_of_ble_eq_true rfl) dX5_count_75 ⟨Nat.zero_le _, Nat.zero_le _⟩ (fun H locs hP hD hS => ?_)
          cases h
          exact hret _ _ _ _ hP hD hS dX5_count_78
        · have h := it_n c_10 h
          by_cases c_18 : i1 = 4
          · have h := it_p c_18 h
            refine lv_tableIn (off := 78) (tgt := 79) hx hb dX5_count_1 (by rw [c_18]; decide) (by rw [c_18]; decide) (by rw [c_18]; rfl) (by decide) ?_
            refine lv_aload_n hx hb dX5_count_79 rfl (lv_at hl 0 rfl) ?_
            refine va_get (D := D) (ci := 4) (v := .ref h1) (C := RX5) (T := TX5) (N := 4) hx hb hts hinX5 hown hK.1 hP 0 rfl rfl 2 (by decide) hw5 (fun _ h9 => h9) rfl dX5_count_80 ?_
            obtain ⟨r_19, hc_20, h⟩ := bd_s h
            refine callVi (As := []) (rest := []) (ws2 := (w5 h5 h2 h3 h1 h4 ++ w1 cI cJ h1 weights1a freshWeights1a signs1a lengths1a sums1a nextSums1a bestFrom1a bestPath1a weights1 freshWeights1 signs1 lengths1 sums1 nextSums1 bestFrom1 bestPath1 ++ w2 cI cJ h2 labels2a guesses2a lengths2a words2a times2a totals2a sizes2a labels2 guesses2 lengths2 words2 times2 totals2 sizes2 rowCount2 addedUp2 addedDown2 ++ w3 cI cJ h3 text3a behind3a uppers3a text3 behind3 uppers3 lower3 textLength3 ++ w4 cI cJ h4 support4a having4a keys4a support4 having4 keys4 ruleCount4)) ⟨hx, hb, hml, hown, hts⟩ (c_X1_signsOfAll l D cI cJ h1 weights1a freshWeights1a signs1a lengths1a sums1a nextSums1a bestFrom1a bestPath1a weights1 freshWeights1 signs1 lengths1 sums1 nextSums1 bestFrom1 bestPath1 r_19 hc_20) (cwV 0 hts gX5_count_X1_signsOfAll rfl rfl rfl (by decide +kernel) ⟨Nat.le_of_ble_eq_true rfl, Nat.le_of_ble_eq_true rfl⟩) hK hP hD hS hA [1, 2, 3, 4, 5, 6, 7, 8, 9] [0, 10, 11, 12, 13, 14, 15, 16, 17, 18, 19, 20, 21, 22, 23, 24, 25] [0, 17, 18, 19, 20, 21, 22, 23, 24, 25, 1, 2, 3, 4, 5, 6, 7, 8, 9, 10, 11, 12, 13, 14, 15, 16] ⟨[(h5, .inr (4, [.ref h2, .ref h3, .ref h1, .ref h4])), (h2, .inr (1, [.ref labels2a, .ref guesses2a, .ref lengths2a, .ref words2a, .ref times2a, .ref totals2a, .ref sizes2a, .int rowCount2, .int addedUp2, .int addedDown2])), (labels2a, .inl (cI, 40, .inl labels2)), (guesses2a, .inl (cI, 40, .inl guesses2)), (lengths2a, .inl (cI, 40, .inl lengths2)), (words2a, .inl (cI, 240, .inl words2)), (times2a, .inl (cI, 32, .inl times2)), (totals2a, .inl (cI, 4, .inl totals2)), (sizes2a, .inl (cI, 4, .inl sizes2)), (h3, .inr (2, [.ref text3a, .ref behind3a, .ref uppers3a, .long lower3, .int textLength3])), (text3a, .inl (cI, 60, .inl text3)), (behind3a, .inl (cI, 8, .inl behind3)), (uppers3a, .inl (cJ, 8, .inr (.inl uppers3))), (h4, .inr (3, [.ref support4a, .ref having4a, .ref keys4a, .int ruleCount4])), (support4a, .inl (cI, 64, .inl support4)), (having4a, .inl (cI, 8, .inl having4)), (keys4a, .inl (cI, 56, .inl keys4))], rfl, rfl, rfl, rfl, by decide, rfl, rfl⟩ 0 0 rfl rfl rfl rfl hl.1 rfl (Nat.le_of_ble_eq_true rfl) dX5_count_83 ⟨Nat.zero_le _, Nat.zero_le _⟩ (fun H locs hP hD hS => ?_)
            cases h
            exact hret _ _ _ _ hP hD hS dX5_count_86
          · have h := it_n c_18 h
            refine lv_tableOut (tgt := 87) hx hb dX5_count_1 (by have := lv_neT (a := 0) c_1 rfl; have := lv_neT (a := 1) c_4 rfl; have := lv_neT (a := 2) c_7 rfl; have := lv_neT (a := 3) c_10 rfl; have := lv_neT (a := 4) c_18 rfl; omega) (by decide) ?_
            refine lv_bipush (v := (-2)) hx hb dX5_count_87 (by decide) ?_
            cases h
            exact hret _ _ _ _ hP hD hS dX5_count_89
