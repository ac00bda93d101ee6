def f_X1_isState (i0 : Int32) : Option (Int32) :=
  if i0 < 0 then
    some 0
  else
    if 4 ≤ i0 then
      some 0
    else
      some 1
set_option maxHeartbeats 4000000 in
set_option maxRecDepth 100000 in
theorem c_X1_isState (l : Launch) (D : va_G) (cI cJ : ClassId) (i0 : Int32) (ret9 : Int32) (h : f_X1_isState i0 = some ret9) : CI l D cI cJ yX1_isState wsX1_isState 0 0 [.int i0] [] [] ret9 := by
  refine entZ (cc := cX1_isState) (maxL := 1) (by decide) rfl (Nat.le_of_ble_eq_true rfl) ?_
  intro p e s m args below meth c ls A Q X hret
  obtain ⟨hx, hb, hml, hts, hown, hK, hA, hP, hD, hS, hl, hnm⟩ := X
  have hown : s.vm.findClass RX1 = some m.cls := hown
  have hl : lv_has ls 1 [(0, .int i0)] := hl
  unfold f_X1_isState at h
  refine lv_iload_n hx hb dX1_isState_0 rfl (lv_at hl 0 rfl) ?_
  refine lv_if_lt (tgt := 13) hx hb dX1_isState_1 (by decide) (fun c_1 => ?_) (fun c_1 => ?_)
  · have h := it_p c_1 h
    refine lv_iconst (v := 0) hx hb dX1_isState_13 (by decide) ?_
    cases h
    exact hret _ _ _ _ (Or.inl rfl) hP hD hS dX1_isState_14
  · have h := it_n c_1 h
    refine lv_iload_n hx hb dX1_isState_4 rfl (lv_at hl 0 rfl) ?_
    refine lv_iconst (v := 4) hx hb dX1_isState_5 (by decide) ?_
    refine lv_icmp_ge (tgt := 13) hx hb dX1_isState_6 (by decide) (fun c_2 => ?_) (fun c_2 => ?_)
    · have h := it_p c_2 h
      refine lv_iconst (v := 0) hx hb dX1_isState_13 (by decide) ?_
      cases h
      exact hret _ _ _ _ (Or.inl rfl) hP hD hS dX1_isState_14
    · have h := it_n c_2 h
      refine lv_iconst (v := 1) hx hb dX1_isState_9 (by decide) ?_
      refine lv_goto (tgt := 14) hx hb dX1_isState_10 (by decide) ?_
      cases h
      exact hret _ _ _ _ (Or.inr rfl) hP hD hS dX1_isState_14
def f_X1_moveAt (i0 : Int32) (i1 : Int32) : Option (Int32) :=
  some ((4 + (i0 * 4)) + i1)
set_option maxHeartbeats 4000000 in
set_option maxRecDepth 100000 in
theorem c_X1_moveAt (l : Launch) (D : va_G) (cI cJ : ClassId) (i0 : Int32) (i1 : Int32) (ret9 : Int32) (h : f_X1_moveAt i0 i1 = some ret9) : CI l D cI cJ yX1_moveAt wsX1_moveAt 0 0 [.int i0, .int i1] [] [] ret9 := by
  refine entI (cc := cX1_moveAt) (maxL := 2) (by decide) rfl (Nat.le_of_ble_eq_true rfl) ?_
  intro p e s m args below meth c ls A Q X hret
  obtain ⟨hx, hb, hml, hts, hown, hK, hA, hP, hD, hS, hl, hnm⟩ := X
  have hown : s.vm.findClass RX1 = some m.cls := hown
  have hl : lv_has ls 2 [(0, .int i0), (1, .int i1)] := hl
  unfold f_X1_moveAt at h
  refine lv_iconst (v := 4) hx hb dX1_moveAt_0 (by decide) ?_
  refine lv_iload_n hx hb dX1_moveAt_1 rfl (lv_at hl 0 rfl) ?_
  refine lv_iconst (v := 4) hx hb dX1_moveAt_2 (by decide) ?_
  refine lv_imul hx hb dX1_moveAt_3 ?_
  refine lv_iadd hx hb dX1_moveAt_4 ?_
  refine lv_iload_n hx hb dX1_moveAt_5 rfl (lv_at hl 1 rfl) ?_
  refine lv_iadd hx hb dX1_moveAt_6 ?_
  cases h
  exact hret _ _ _ _ hP hD hS dX1_moveAt_7
def f_X1_isSign (i0 : Int32) : Option (Int32) :=
  if i0 < 0 then
    some 0
  else
    if 4 ≤ i0 then
      some 0
    else
      some 1
set_option maxHeartbeats 4000000 in
set_option maxRecDepth 100000 in
theorem c_X1_isSign (l : Launch) (D : va_G) (cI cJ : ClassId) (i0 : Int32) (ret9 : Int32) (h : f_X1_isSign i0 = some ret9) : CI l D cI cJ yX1_isSign wsX1_isSign 0 0 [.int i0] [] [] ret9 := by
  refine entZ (cc := cX1_isSign) (maxL := 1) (by decide) rfl (Nat.le_of_ble_eq_true rfl) ?_
  intro p e s m args below meth c ls A Q X hret
  obtain ⟨hx, hb, hml, hts, hown, hK, hA, hP, hD, hS, hl, hnm⟩ := X
  have hown : s.vm.findClass RX1 = some m.cls := hown
  have hl : lv_has ls 1 [(0, .int i0)] := hl
  unfold f_X1_isSign at h
  refine lv_iload_n hx hb dX1_isSign_0 rfl (lv_at hl 0 rfl) ?_
  refine lv_if_lt (tgt := 13) hx hb dX1_isSign_1 (by decide) (fun c_1 => ?_) (fun c_1 => ?_)
  · have h := it_p c_1 h
    refine lv_iconst (v := 0) hx hb dX1_isSign_13 (by decide) ?_
    cases h
    exact hret _ _ _ _ (Or.inl rfl) hP hD hS dX1_isSign_14
  · have h := it_n c_1 h
    refine lv_iload_n hx hb dX1_isSign_4 rfl (lv_at hl 0 rfl) ?_
    refine lv_iconst (v := 4) hx hb dX1_isSign_5 (by decide) ?_
    refine lv_icmp_ge (tgt := 13) hx hb dX1_isSign_6 (by decide) (fun c_2 => ?_) (fun c_2 => ?_)
    · have h := it_p c_2 h
      refine lv_iconst (v := 0) hx hb dX1_isSign_13 (by decide) ?_
      cases h
      exact hret _ _ _ _ (Or.inl rfl) hP hD hS dX1_isSign_14
    · have h := it_n c_2 h
      refine lv_iconst (v := 1) hx hb dX1_isSign_9 (by decide) ?_
      refine lv_goto (tgt := 14) hx hb dX1_isSign_10 (by decide) ?_
      cases h
      exact hret _ _ _ _ (Or.inr rfl) hP hD hS dX1_isSign_14
def f_X1_showAt (i0 : Int32) (i1 : Int32) : Option (Int32) :=
  some ((20 + (i0 * 4)) + i1)
set_option maxHeartbeats 4000000 in
set_option maxRecDepth 100000 in
theorem c_X1_showAt (l : Launch) (D : va_G) (cI cJ : ClassId) (i0 : Int32) (i1 : Int32) (ret9 : Int32) (h : f_X1_showAt i0 i1 = some ret9) : CI l D cI cJ yX1_showAt wsX1_showAt 0 0 [.int i0, .int i1] [] [] ret9 := by
  refine entI (cc := cX1_showAt) (maxL := 2) (by decide) rfl (Nat.le_of_ble_eq_true rfl) ?_
  intro p e s m args below meth c ls A Q X hret
  obtain ⟨hx, hb, hml, hts, hown, hK, hA, hP, hD, hS, hl, hnm⟩ := X
  have hown : s.vm.findClass RX1 = some m.cls := hown
  have hl : lv_has ls 2 [(0, .int i0), (1, .int i1)] := hl
  unfold f_X1_showAt at h
  refine lv_bipush (v := 20) hx hb dX1_showAt_0 (by decide) ?_
  refine lv_iload_n hx hb dX1_showAt_2 rfl (lv_at hl 0 rfl) ?_
  refine lv_iconst (v := 4) hx hb dX1_showAt_3 (by decide) ?_
  refine lv_imul hx hb dX1_showAt_4 ?_
  refine lv_iadd hx hb dX1_showAt_5 ?_
  refine lv_iload_n hx hb dX1_showAt_6 rfl (lv_at hl 1 rfl) ?_
  refine lv_iadd hx hb dX1_showAt_7 ?_
  cases h
  exact hret _ _ _ _ hP hD hS dX1_showAt_8
def f_X1_placeOf (i0 : Int32) (i1 : Int32) (i2 : Int32) : Option (Int32) :=
  Option.bind (f_X1_isState i1) fun r_1 =>
  if r_1 = 0 then
    some (-1)
  else
    if i0 = 0 then
      some i1
    else
      if i0 = 1 then
        Option.bind (f_X1_isState i2) fun r_12 =>
        if r_12 = 0 then
          if i0 = 2 then
            Option.bind (f_X1_isSign i2) fun r_16 =>
            if r_16 = 0 then
              some (-1)
            else
              Option.bind (f_X1_showAt i1 i2) fun r_19 =>
              some r_19
          else
            some (-1)
        else
          Option.bind (f_X1_moveAt i1 i2) fun r_21 =>
          some r_21
      else
        if i0 = 2 then
          Option.bind (f_X1_isSign i2) fun r_7 =>
          if r_7 = 0 then
            some (-1)
          else
            Option.bind (f_X1_showAt i1 i2) fun r_10 =>
            some r_10
        else
          some (-1)
set_option maxHeartbeats 4000000 in
set_option maxRecDepth 100000 in
theorem c_X1_placeOf (l : Launch) (D : va_G) (cI cJ : ClassId) (i0 : Int32) (i1 : Int32) (i2 : Int32) (ret9 : Int32) (h : f_X1_placeOf i0 i1 i2 = some ret9) : CI l D cI cJ yX1_placeOf wsX1_placeOf 1 21 [.int i0, .int i1, .int i2] [] [] ret9 := by
  refine entI (cc := cX1_placeOf) (maxL := 3) (by decide) rfl (Nat.le_of_ble_eq_true rfl) ?_
  intro p e s m args below meth c ls A Q X hret
  obtain ⟨hx, hb, hml, hts, hown, hK, hA, hP, hD, hS, hl, hnm⟩ := X
  have hown : s.vm.findClass RX1 = some m.cls := hown
  have hl : lv_has ls 3 [(0, .int i0), (1, .int i1), (2, .int i2)] := hl
  unfold f_X1_placeOf at h
  refine lv_iload_n hx hb dX1_placeOf_0 rfl (lv_at hl 1 rfl) ?_
  obtain ⟨r_1, hc_2, h⟩ := bd_s h
  refine callPi (As := [.int i1]) (rest := []) ⟨hx, hb, hml, hown, hts⟩ (c_X1_isState l D cI cJ i1 r_1 hc_2) (va_cwS 1 hts gX1_placeOf_X1_isState rfl rfl rfl (by decide +kernel) ⟨Nat.le_of_ble_eq_true rfl, Nat.le_of_ble_eq_true rfl⟩) hK hP hD hS hA rfl hl.1 rfl (Nat.le_of_ble_eq_true rfl) dX1_placeOf_1 ⟨Nat.zero_le _, Nat.zero_le _⟩ (fun H locs hP hD hS => ?_)
  refine lv_if_ne (tgt := 9) hx hb dX1_placeOf_4 (by decide) (fun c_3 => ?_) (fun c_3 => ?_)
  · have h := it_n c_3 h
    refine lv_iload_n hx hb dX1_placeOf_9 rfl (lv_at hl 0 rfl) ?_
    refine lv_if_ne (tgt := 15) hx hb dX1_placeOf_10 (by decide) (fun c_4 => ?_) (fun c_4 => ?_)
    · have h := it_n c_4 h
      refine lv_iload_n hx hb dX1_placeOf_15 rfl (lv_at hl 0 rfl) ?_
      refine lv_iconst (v := 1) hx hb dX1_placeOf_16 (by decide) ?_
      refine lv_icmp_ne (tgt := 33) hx hb dX1_placeOf_17 (by decide) (fun c_5 => ?_) (fun c_5 => ?_)
      · have h := it_n c_5 h
        refine lv_iload_n hx hb dX1_placeOf_33 rfl (lv_at hl 0 rfl) ?_
        refine lv_iconst (v := 2) hx hb dX1_placeOf_34 (by decide) ?_
        refine lv_icmp_ne (tgt := 53) hx hb dX1_placeOf_35 (by decide) (fun c_6 => ?_) (fun c_6 => ?_)
        · have h := it_n c_6 h
          refine lv_iconst (v := (-1)) hx hb dX1_placeOf_53 (by decide) ?_
          cases h
          exact hret _ _ _ _ hP hD hS dX1_placeOf_54
        · have h := it_p c_6 h
          refine lv_iload_n hx hb dX1_placeOf_38 rfl (lv_at hl 2 rfl) ?_
          obtain ⟨r_7, hc_8, h⟩ := bd_s h
          refine callPi (As := [.int i2]) (rest := []) ⟨hx, hb, hml, hown, hts⟩ (c_X1_isSign l D cI cJ i2 r_7 hc_8) (va_cwS 1 hts gX1_placeOf_X1_isSign rfl rfl rfl (by decide +kernel) ⟨Nat.le_of_ble_eq_true rfl, Nat.le_of_ble_eq_true rfl⟩) hK hP hD hS hA rfl hl.1 rfl (Nat.le_of_ble_eq_true rfl) dX1_placeOf_39 ⟨Nat.zero_le _, Nat.zero_le _⟩ (fun H locs hP hD hS => ?_)
          refine lv_if_eq (tgt := 53) hx hb dX1_placeOf_42 (by decide) (fun c_9 => ?_) (fun c_9 => ?_)
          · have h := it_p c_9 h
            refine lv_iconst (v := (-1)) hx hb dX1_placeOf_53 (by decide) ?_
            cases h
            exact hret _ _ _ _ hP hD hS dX1_placeOf_54
          · have h := it_n c_9 h
            refine lv_iload_n hx hb dX1_placeOf_45 rfl (lv_at hl 1 rfl) ?_
            refine lv_iload_n hx hb dX1_placeOf_46 rfl (lv_at hl 2 rfl) ?_
            obtain ⟨r_10, hc_11, h⟩ := bd_s h
            refine callPi (As := [.int i1, .int i2]) (rest := []) ⟨hx, hb, hml, hown, hts⟩ (c_X1_showAt l D cI cJ i1 i2 r_10 hc_11) (va_cwS 2 hts gX1_placeOf_X1_showAt rfl rfl rfl (by decide +kernel) ⟨Nat.le_of_ble_eq_true rfl, Nat.le_of_ble_eq_true rfl⟩) hK hP hD hS hA rfl hl.1 rfl (Nat.le_of_ble_eq_true rfl) dX1_placeOf_47 ⟨Nat.zero_le _, Nat.zero_le _⟩ (fun H locs hP hD hS => ?_)
            refine lv_goto (tgt := 54) hx hb dX1_placeOf_50 (by decide) ?_
            cases h
            exact hret _ _ _ _ hP hD hS dX1_placeOf_54
      · have h := it_p c_5 h
        refine lv_iload_n hx hb dX1_placeOf_20 rfl (lv_at hl 2 rfl) ?_
        obtain ⟨r_12, hc_13, h⟩ := bd_s h
        refine callPi (As := [.int i2]) (rest := []) ⟨hx, hb, hml, hown, hts⟩ (c_X1_isState l D cI cJ i2 r_12 hc_13) (va_cwS 1 hts gX1_placeOf_X1_isState rfl rfl rfl (by decide +kernel) ⟨Nat.le_of_ble_eq_true rfl, Nat.le_of_ble_eq_true rfl⟩) hK hP hD hS hA rfl hl.1 rfl (Nat.le_of_ble_eq_true rfl) dX1_placeOf_21 ⟨Nat.zero_le _, Nat.zero_le _⟩ (fun H locs hP hD hS => ?_)
        refine lv_if_eq (tgt := 33) hx hb dX1_placeOf_24 (by decide) (fun c_14 => ?_) (fun c_14 => ?_)
        · have h := it_p c_14 h
          refine lv_iload_n hx hb dX1_placeOf_33 rfl (lv_at hl 0 rfl) ?_
          refine lv_iconst (v := 2) hx hb dX1_placeOf_34 (by decide) ?_
          refine lv_icmp_ne (tgt := 53) hx hb dX1_placeOf_35 (by decide) (fun c_15 => ?_) (fun c_15 => ?_)
          · have h := it_n c_15 h
            refine lv_iconst (v := (-1)) hx hb dX1_placeOf_53 (by decide) ?_
            cases h
            exact hret _ _ _ _ hP hD hS dX1_placeOf_54
          · have h := it_p c_15 h
            refine lv_iload_n hx hb dX1_placeOf_38 rfl (lv_at hl 2 rfl) ?_
            obtain ⟨r_16, hc_17, h⟩ := bd_s h
            refine callPi (As := [.int i2]) (rest := []) ⟨hx, hb, hml, hown, hts⟩ (c_X1_isSign l D cI cJ i2 r_16 hc_17) (va_cwS 1 hts gX1_placeOf_X1_isSign rfl rfl rfl (by decide +kernel) ⟨Nat.le_of_ble_eq_true rfl, Nat.le_of_ble_eq_true rfl⟩) hK hP hD hS hA rfl hl.1 rfl (Nat.le_of_ble_eq_true rfl) dX1_placeOf_39 ⟨Nat.zero_le _, Nat.zero_le _⟩ (fun H locs hP hD hS => ?_)
            refine lv_if_eq (tgt := 53) hx hb dX1_placeOf_42 (by decide) (fun c_18 => ?_) (fun c_18 => ?_)
            · have h := it_p c_18 h
              refine lv_iconst (v := (-1)) hx hb dX1_placeOf_53 (by decide) ?_
              cases h
              exact hret _ _ _ _ hP hD hS dX1_placeOf_54
            · have h := it_n c_18 h
              refine lv_iload_n hx hb dX1_placeOf_45 rfl (lv_at hl 1 rfl) ?_
              refine lv_iload_n hx hb dX1_placeOf_46 rfl (lv_at hl 2 rfl) ?_
              obtain ⟨r_19, hc_20, h⟩ := bd_s h
              refine callPi (As := [.int i1, .int i2]) (rest := []) ⟨hx, hb, hml, hown, hts⟩ (c_X1_showAt l D cI cJ i1 i2 r_19 hc_20) (va_cwS 2 hts gX1_placeOf_X1_showAt rfl rfl rfl (by decide +kernel) ⟨Nat.le_of_ble_eq_true rfl, Nat.le_of_ble_eq_true rfl⟩) hK hP hD hS hA rfl hl.1 rfl (Nat.le_of_ble_eq_true rfl) dX1_placeOf_47 ⟨Nat.zero_le _, Nat.zero_le _⟩ (fun H locs hP hD hS => ?_)
              refine lv_goto (tgt := 54) hx hb dX1_placeOf_50 (by decide) ?_
              cases h
              exact hret _ _ _ _ hP hD hS dX1_placeOf_54
        · have h := it_n c_14 h
          refine lv_iload_n hx hb dX1_placeOf_27 rfl (lv_at hl 1 rfl) ?_
          refine lv_iload_n hx hb dX1_placeOf_28 rfl (lv_at hl 2 rfl) ?_
          obtain ⟨r_21, hc_22, h⟩ := bd_s h
          refine callPi (As := [.int i1, .int i2]) (rest := []) ⟨hx, hb, hml, hown, hts⟩ (c_X1_moveAt l D cI cJ i1 i2 r_21 hc_22) (va_cwS 2 hts gX1_placeOf_X1_moveAt rfl rfl rfl (by decide +kernel) ⟨Nat.le_of_ble_eq_true rfl, Nat.le_of_ble_eq_true rfl⟩) hK hP hD hS hA rfl hl.1 rfl (Nat.le_of_ble_eq_true rfl) dX1_placeOf_29 ⟨Nat.zero_le _, Nat.zero_le _⟩ (fun H locs hP hD hS => ?_)
          cases h
          exact hret _ _ _ _ hP hD hS dX1_placeOf_32
    · have h := it_p c_4 h
      refine lv_iload_n hx hb dX1_placeOf_13 rfl (lv_at hl 1 rfl) ?_
      cases h
      exact hret _ _ _ _ hP hD hS dX1_placeOf_14
  · have h := it_p c_3 h
    refine lv_iconst (v := (-1)) hx hb dX1_placeOf_7 (by decide) ?_
    cases h
    exact hret _ _ _ _ hP hD hS dX1_placeOf_8
def f_X1_reweigh (i1 : Int32) (i2 : Int32) (weights1 : Nat → Int32) : Option (Int32 × (Nat → Int32)) :=
  gA 36 weights1 i1 fun v_2 =>
  nm (α := Int32) (v_2) fun x3_3 =>
  if i2 = (-1) then
    some (x3_3, weights1)
  else
    sI 36 weights1 i1 i2 fun weights1_6 =>
    some (x3_3, weights1_6)
set_option maxHeartbeats 4000000 in
set_option maxRecDepth 100000 in
theorem c_X1_reweigh (l : Launch) (D : va_G) (cI cJ : ClassId) (h1 weights1a freshWeights1a signs1a lengths1a sums1a nextSums1a bestFrom1a bestPath1a : Nat) (weights1 : Nat → Int32) (freshWeights1 : Nat → Int32) (signs1 : Nat → Int32) (lengths1 : Nat → Int32) (sums1 : Nat → Int64) (nextSums1 : Nat → Int64) (bestFrom1 : Nat → Int64) (bestPath1 : Nat → Int32) (i1 : Int32) (i2 : Int32) (ret9 : Int32) (weights1z : Nat → Int32) (h : f_X1_reweigh i1 i2 weights1 = some (ret9, weights1z)) : CI l D cI cJ yX1_reweigh wsX1_reweigh 0 0 [.ref h1, .int i1, .int i2] (w1 cI cJ h1 weights1a freshWeights1a signs1a lengths1a sums1a nextSums1a bestFrom1a bestPath1a weights1 freshWeights1 signs1 lengths1 sums1 nextSums1 bestFrom1 bestPath1) (w1 cI cJ h1 weights1a freshWeights1a signs1a lengths1a sums1a nextSums1a bestFrom1a bestPath1a weights1z freshWeights1 signs1 lengths1 sums1 nextSums1 bestFrom1 bestPath1) ret9 := by
  refine entI (cc := cX1_reweigh) (maxL := 4) (by decide) rfl (Nat.le_of_ble_eq_true rfl) ?_
  intro p e s m args below meth c ls A Q X hret
  obtain ⟨hx, hb, hml, hts, hown, hK, hA, hP, hD, hS, hl, hnm⟩ := X
  have hown : s.vm.findClass RX1 = some m.cls := hown
  have hl : lv_has ls 4 [(0, .ref h1), (1, .int i1), (2, .int i2)] := hl
  have hw1 : (Cond.fieldLink RX1 11 "CountLearners$HiddenStates" "weights" "[I").before args s = true := hts _ (by decide +kernel)
  have hinX1 : ∀ w ∈ wsX10, w ∈ wsX1_reweigh := by decide +kernel
  unfold f_X1_reweigh at h
  refine lv_aload_n hx hb dX1_reweigh_0 rfl (lv_at hl 0 rfl) ?_
  refine va_get (D := D) (ci := 0) (v := .ref weights1a) (C := RX1) (T := TX1) (N := 8) hx hb hts hinX1 hown hK.1 hP 0 rfl rfl 0 (by decide) hw1 (fun _ h9 => h9) rfl dX1_reweigh_1 ?_
  refine lv_iload_n hx hb dX1_reweigh_4 rfl (lv_at hl 1 rfl) ?_
  obtain ⟨hi_1, h⟩ := gA_s h
  refine va_iald hx hb hK.1 hP 1 0 rfl rfl hi_1 dX1_reweigh_5 ?_
  refine lv_topi (fun v_2 ev_2 => ?_)
  have h := h v_2 ev_2
  refine lv_topi (fun x3_3 ex3_3 => ?_)
  have h := nm_s h x3_3 ex3_3
  refine lv_istore_n (lv' := [(3, .int x3_3), (0, .ref h1), (1, .int i1), (2, .int i2)]) hx hb dX1_reweigh_6 rfl hl (by decide) rfl (fun ls hl => ?_)
  refine lv_iload_n hx hb dX1_reweigh_7 rfl (lv_at hl 3 rfl) ?_
  refine lv_iconst (v := (-1)) hx hb dX1_reweigh_8 (by decide) ?_
  refine lv_icmp_eq (tgt := 19) hx hb dX1_reweigh_9 (by decide) (fun c_4 => ?_) (fun c_4 => ?_)
  · have h := it_p c_4 h
    refine lv_iload_n hx hb dX1_reweigh_19 rfl (lv_at hl 0 rfl) ?_
    cases h
    exact hret _ _ _ _ hP hD hS dX1_reweigh_20
  · have h := it_n c_4 h
    refine lv_aload_n hx hb dX1_reweigh_12 rfl (lv_at hl 1 rfl) ?_
    refine va_get (D := D) (ci := 0) (v := .ref weights1a) (C := RX1) (T := TX1) (N := 8) hx hb hts hinX1 hown hK.1 hP 0 rfl rfl 0 (by decide) hw1 (fun _ h9 => h9) rfl dX1_reweigh_13 ?_
    refine lv_iload_n hx hb dX1_reweigh_16 rfl (lv_at hl 2 rfl) ?_
    refine lv_iload_n hx hb dX1_reweigh_17 rfl (lv_at hl 3 rfl) ?_
    obtain ⟨hi_5, h⟩ := sI_s h
    refine va_iast hx hb hK.1 hP hD hS 1 0 rfl rfl hi_5 dX1_reweigh_18 (fun H locs hP hD hS => ?_)
    obtain ⟨weights1_6, eweights1_6⟩ : ∃ z, z = upd weights1 (Int32.toNatClampNeg i1) i2 := ⟨_, rfl⟩
    have h := h weights1_6 eweights1_6
    rw [← eweights1_6] at hP hD
    have hP : va_P D vwK (w1 cI cJ h1 weights1a freshWeights1a signs1a lengths1a sums1a nextSums1a bestFrom1a bestPath1a weights1_6 freshWeights1 signs1 lengths1 sums1 nextSums1 bestFrom1 bestPath1) H := hP
    have hD : va_D A (w1 cI cJ h1 weights1a freshWeights1a signs1a lengths1a sums1a nextSums1a bestFrom1a bestPath1a weights1_6 freshWeights1 signs1 lengths1 sums1 nextSums1 bestFrom1 bestPath1) := hD
    refine lv_iload_n hx hb dX1_reweigh_19 rfl (lv_at hl 0 rfl) ?_
    cases h
    exact hret _ _ _ _ hP hD hS dX1_reweigh_20
def f_X1_isRow (i0 : Int32) : Option (Int32) :=
  if i0 < 0 then
    some 0
  else
    if 4 ≤ i0 then
      some 0
    else
      some 1
set_option maxHeartbeats 4000000 in
set_option maxRecDepth 100000 in
theorem c_X1_isRow (l : Launch) (D : va_G) (cI cJ : ClassId) (i0 : Int32) (ret9 : Int32) (h : f_X1_isRow i0 = some ret9) : CI l D cI cJ yX1_isRow wsX1_isRow 0 0 [.int i0] [] [] ret9 := by
  refine entZ (cc := cX1_isRow) (maxL := 1) (by decide) rfl (Nat.le_of_ble_eq_true rfl) ?_
  intro p e s m args below meth c ls A Q X hret
  obtain ⟨hx, hb, hml, hts, hown, hK, hA, hP, hD, hS, hl, hnm⟩ := X
  have hown : s.vm.findClass RX1 = some m.cls := hown
  have hl : lv_has ls 1 [(0, .int i0)] := hl
  unfold f_X1_isRow at h
  refine lv_iload_n hx hb dX1_isRow_0 rfl (lv_at hl 0 rfl) ?_
  refine lv_if_lt (tgt := 13) hx hb dX1_isRow_1 (by decide) (fun c_1 => ?_) (fun c_1 => ?_)
  · have h := it_p c_1 h
    refine lv_iconst (v := 0) hx hb dX1_isRow_13 (by decide) ?_
    cases h
    exact hret _ _ _ _ (Or.inl rfl) hP hD hS dX1_isRow_14
  · have h := it_n c_1 h
    refine lv_iload_n hx hb dX1_isRow_4 rfl (lv_at hl 0 rfl) ?_
    refine lv_iconst (v := 4) hx hb dX1_isRow_5 (by decide) ?_
    refine lv_icmp_ge (tgt := 13) hx hb dX1_isRow_6 (by decide) (fun c_2 => ?_) (fun c_2 => ?_)
    · have h := it_p c_2 h
      refine lv_iconst (v := 0) hx hb dX1_isRow_13 (by decide) ?_
      cases h
      exact hret _ _ _ _ (Or.inl rfl) hP hD hS dX1_isRow_14
    · have h := it_n c_2 h
      refine lv_iconst (v := 1) hx hb dX1_isRow_9 (by decide) ?_
      refine lv_goto (tgt := 14) hx hb dX1_isRow_10 (by decide) ?_
      cases h
      exact hret _ _ _ _ (Or.inr rfl) hP hD hS dX1_isRow_14
def f_X1_isFullRow (i1 : Int32) (lengths1 : Nat → Int32) : Option (Int32) :=
  gA 4 lengths1 i1 fun v_2 =>
  if v_2 < 5 then
    some 0
  else
    some 1
set_option maxHeartbeats 4000000 in
set_option maxRecDepth 100000 in
theorem c_X1_isFullRow (l : Launch) (D : va_G) (cI cJ : ClassId) (h1 weights1a freshWeights1a signs1a lengths1a sums1a nextSums1a bestFrom1a bestPath1a : Nat) (weights1 : Nat → Int32) (freshWeights1 : Nat → Int32) (signs1 : Nat → Int32) (lengths1 : Nat → Int32) (sums1 : Nat → Int64) (nextSums1 : Nat → Int64) (bestFrom1 : Nat → Int64) (bestPath1 : Nat → Int32) (i1 : Int32) (ret9 : Int32) (h : f_X1_isFullRow i1 lengths1 = some ret9) : CI l D cI cJ yX1_isFullRow wsX1_isFullRow 0 0 [.ref h1, .int i1] (w1 cI cJ h1 weights1a freshWeights1a signs1a lengths1a sums1a nextSums1a bestFrom1a bestPath1a weights1 freshWeights1 signs1 lengths1 sums1 nextSums1 bestFrom1 bestPath1) (w1 cI cJ h1 weights1a freshWeights1a signs1a lengths1a sums1a nextSums1a bestFrom1a bestPath1a weights1 freshWeights1 signs1 lengths1 sums1 nextSums1 bestFrom1 bestPath1) ret9 := by
  refine entZ (cc := cX1_isFullRow) (maxL := 2) (by decide) rfl (Nat.le_of_ble_eq_true rfl) ?_
  intro p e s m args below meth c ls A Q X hret
  obtain ⟨hx, hb, hml, hts, hown, hK, hA, hP, hD, hS, hl, hnm⟩ := X
  have hown : s.vm.findClass RX1 = some m.cls := hown
  have hl : lv_has ls 2 [(0, .ref h1), (1, .int i1)] := hl
  have hw1 : (Cond.fieldLink RX1 21 "CountLearners$HiddenStates" "lengths" "[I").before args s = true := hts _ (by decide +kernel)
  have hinX1 : ∀ w ∈ wsX10, w ∈ wsX1_isFullRow := by decide +kernel
  unfold f_X1_isFullRow at h
  refine lv_aload_n hx hb dX1_isFullRow_0 rfl (lv_at hl 0 rfl) ?_
  refine va_get (D := D) (ci := 0) (v := .ref lengths1a) (C := RX1) (T := TX1) (N := 8) hx hb hts hinX1 hown hK.1 hP 0 rfl rfl 3 (by decide) hw1 (fun _ h9 => h9) rfl dX1_isFullRow_1 ?_
  refine lv_iload_n hx hb dX1_isFullRow_4 rfl (lv_at hl 1 rfl) ?_
  obtain ⟨hi_1, h⟩ := gA_s h
  refine va_iald hx hb hK.1 hP 4 0 rfl rfl hi_1 dX1_isFullRow_5 ?_
  refine lv_topi (fun v_2 ev_2 => ?_)
  have h := h v_2 ev_2
  refine lv_iconst (v := 5) hx hb dX1_isFullRow_6 (by decide) ?_
  refine lv_icmp_lt (tgt := 14) hx hb dX1_isFullRow_7 (by decide) (fun c_3 => ?_) (fun c_3 => ?_)
  · have h := it_p c_3 h
    refine lv_iconst (v := 0) hx hb dX1_isFullRow_14 (by decide) ?_
    cases h
    exact hret _ _ _ _ (Or.inl rfl) hP hD hS dX1_isFullRow_15
  · have h := it_n c_3 h
    refine lv_iconst (v := 1) hx hb dX1_isFullRow_10 (by decide) ?_
    refine lv_goto (tgt := 15) hx hb dX1_isFullRow_11 (by decide) ?_
    cases h
    exact hret _ _ _ _ (Or.inr rfl) hP hD hS dX1_isFullRow_15
def f_X1_append (i1 : Int32) (i2 : Int32) (signs1 : Nat → Int32) (lengths1 : Nat → Int32) : Option (Int32 × (Nat → Int32) × (Nat → Int32)) :=
  gA 4 lengths1 i1 fun v_2 =>
  sI 20 signs1 ((i1 * 5) + v_2) i2 fun signs1_4 =>
  gA 4 lengths1 i1 fun v_6 =>
  sI 4 lengths1 i1 (v_6 + 1) fun lengths1_8 =>
  gA 4 lengths1_8 i1 fun v_10 =>
  some (v_10, signs1_4, lengths1_8)
set_option maxHeartbeats 4000000 in
set_option maxRecDepth 100000 in
theorem c_X1_append (l : Launch) (D : va_G) (cI cJ : ClassId) (h1 weights1a freshWeights1a signs1a lengths1a sums1a nextSums1a bestFrom1a bestPath1a : Nat) (weights1 : Nat → Int32) (freshWeights1 : Nat → Int32) (signs1 : Nat → Int32) (lengths1 : Nat → Int32) (sums1 : Nat → Int64) (nextSums1 : Nat → Int64) (bestFrom1 : Nat → Int64) (bestPath1 : Nat → Int32) (i1 : Int32) (i2 : Int32) (ret9 : Int32) (signs1z : Nat → Int32) (lengths1z : Nat → Int32) (h : f_X1_append i1 i2 signs1 lengths1 = some (ret9, signs1z, lengths1z)) : CI l D cI cJ yX1_append wsX1_append 0 0 [.ref h1, .int i1, .int i2] (w1 cI cJ h1 weights1a freshWeights1a signs1a lengths1a sums1a nextSums1a bestFrom1a bestPath1a weights1 freshWeights1 signs1 lengths1 sums1 nextSums1 bestFrom1 bestPath1) (w1 cI cJ h1 weights1a freshWeights1a signs1a lengths1a sums1a nextSums1a bestFrom1a bestPath1a weights1 freshWeights1 signs1z lengths1z sums1 nextSums1 bestFrom1 bestPath1) ret9 := by
  refine entI (cc := cX1_append) (maxL := 3) (by decide) rfl (Nat.le_of_ble_eq_true rfl) ?_
  intro p e s m args below meth c ls A Q X hret
  obtain ⟨hx, hb, hml, hts, hown, hK, hA, hP, hD, hS, hl, hnm⟩ := X
  have hown : s.vm.findClass RX1 = some m.cls := hown
  have hl : lv_has ls 3 [(0, .ref h1), (1, .int i1), (2, .int i2)] := hl
  have hw1 : (Cond.fieldLink RX1 18 "CountLearners$HiddenStates" "signs" "[I").before args s = true := hts _ (by decide +kernel)
  have hinX1 : ∀ w ∈ wsX10, w ∈ wsX1_append := by decide +kernel
  have hw3 : (Cond.fieldLink RX1 21 "CountLearners$HiddenStates" "lengths" "[I").before args s = true := hts _ (by decide +kernel)
  unfold f_X1_append at h
  refine lv_aload_n hx hb dX1_append_0 rfl (lv_at hl 0 rfl) ?_
  refine va_get (D := D) (ci := 0) (v := .ref signs1a) (C := RX1) (T := TX1) (N := 8) hx hb hts hinX1 hown hK.1 hP 0 rfl rfl 2 (by decide) hw1 (fun _ h9 => h9) rfl dX1_append_1 ?_
  refine lv_iload_n hx hb dX1_append_4 rfl (lv_at hl 1 rfl) ?_
  refine lv_iconst (v := 5) hx hb dX1_append_5 (by decide) ?_
  refine lv_imul hx hb dX1_append_6 ?_
  refine lv_aload_n hx hb dX1_append_7 rfl (lv_at hl 0 rfl) ?_
  refine va_get (D := D) (ci := 0) (v := .ref lengths1a) (C := RX1) (T := TX1) (N := 8) hx hb hts hinX1 hown hK.1 hP 0 rfl rfl 3 (by decide) hw3 (fun _ h9 => h9) rfl dX1_append_8 ?_
  refine lv_iload_n hx hb dX1_append_11 rfl (lv_at hl 1 rfl) ?_
  obtain ⟨hi_1, h⟩ := gA_s h
  refine va_iald hx hb hK.1 hP 4 0 rfl rfl hi_1 dX1_append_12 ?_
  refine lv_topi (fun v_2 ev_2 => ?_)
  have h := h v_2 ev_2
  refine lv_iadd hx hb dX1_append_13 ?_
  refine lv_iload_n hx hb dX1_append_14 rfl (lv_at hl 2 rfl) ?_
  obtain ⟨hi_3, h⟩ := sI_s h
  refine va_iast hx hb hK.1 hP hD hS 3 0 rfl rfl hi_3 dX1_append_15 (fun H locs hP hD hS => ?_)
  obtain ⟨signs1_4, esigns1_4⟩ : ∃ z, z = upd signs1 (Int32.toNatClampNeg ((i1 * 5) + v_2)) i2 := ⟨_, rfl⟩
  have h := h signs1_4 esigns1_4
  rw [← esigns1_4] at hP hD
  have hP : va_P D vwK (w1 cI cJ h1 weights1a freshWeights1a signs1a lengths1a sums1a nextSums1a bestFrom1a bestPath1a weights1 freshWeights1 signs1_4 lengths1 sums1 nextSums1 bestFrom1 bestPath1) H := hP
  have hD : va_D A (w1 cI cJ h1 weights1a freshWeights1a signs1a lengths1a sums1a nextSums1a bestFrom1a bestPath1a weights1 freshWeights1 signs1_4 lengths1 sums1 nextSums1 bestFrom1 bestPath1) := hD
  refine lv_aload_n hx hb dX1_append_16 rfl (lv_at hl 0 rfl) ?_
  refine va_get (D := D) (ci := 0) (v := .ref lengths1a) (C := RX1) (T := TX1) (N := 8) hx hb hts hinX1 hown hK.1 hP 0 rfl rfl 3 (by decide) hw3 (fun _ h9 => h9) rfl dX1_append_17 ?_
  refine lv_iload_n hx hb dX1_append_20 rfl (lv_at hl 1 rfl) ?_
  refine lv_dup2_11 hx hb dX1_append_21 rfl rfl ?_
  obtain ⟨hi_5, h⟩ := gA_s h
  refine va_iald hx hb hK.1 hP 4 0 rfl rfl hi_5 dX1_append_22 ?_
  refine lv_topi (fun v_6 ev_6 => ?_)
  have h := h v_6 ev_6
  refine lv_iconst (v := 1) hx hb dX1_append_23 (by decide) ?_
  refine lv_iadd hx hb dX1_append_24 ?_
  obtain ⟨hi_7, h⟩ := sI_s h
  refine va_iast hx hb hK.1 hP hD hS 4 0 rfl rfl hi_7 dX1_append_25 (fun H locs hP hD hS => ?_)
  obtain ⟨lengths1_8, elengths1_8⟩ : ∃ z, z = upd lengths1 (Int32.toNatClampNeg i1) (v_6 + 1) := ⟨_, rfl⟩
  have h := h lengths1_8 elengths1_8
  rw [← elengths1_8] at hP hD
  have hP : va_P D vwK (w1 cI cJ h1 weights1a freshWeights1a signs1a lengths1a sums1a nextSums1a bestFrom1a bestPath1a weights1 freshWeights1 signs1_4 lengths1_8 sums1 nextSums1 bestFrom1 bestPath1) H := hP
  have hD : va_D A (w1 cI cJ h1 weights1a freshWeights1a signs1a lengths1a sums1a nextSums1a bestFrom1a bestPath1a weights1 freshWeights1 signs1_4 lengths1_8 sums1 nextSums1 bestFrom1 bestPath1) := hD
  refine lv_aload_n hx hb dX1_append_26 rfl (lv_at hl 0 rfl) ?_
  refine va_get (D := D) (ci := 0) (v := .ref lengths1a) (C := RX1) (T := TX1) (N := 8) hx hb hts hinX1 hown hK.1 hP 0 rfl rfl 3 (by decide) hw3 (fun _ h9 => h9) rfl dX1_append_27 ?_
  refine lv_iload_n hx hb dX1_append_30 rfl (lv_at hl 1 rfl) ?_
  obtain ⟨hi_9, h⟩ := gA_s h
  refine va_iald hx hb hK.1 hP 4 0 rfl rfl hi_9 dX1_append_31 ?_
  refine lv_topi (fun v_10 ev_10 => ?_)
  have h := h v_10 ev_10
  cases h
  exact hret _ _ _ _ hP hD hS dX1_append_32
def f_X1_hasPlace (i1 : Int32) (i2 : Int32) (lengths1 : Nat → Int32) : Option (Int32) :=
  if i2 < 0 then
    some 0
  else
    gA 4 lengths1 i1 fun v_3 =>
    if v_3 ≤ i2 then
      some 0
    else
      some 1
set_option maxHeartbeats 4000000 in
set_option maxRecDepth 100000 in
theorem c_X1_hasPlace (l : Launch) (D : va_G) (cI cJ : ClassId) (h1 weights1a freshWeights1a signs1a lengths1a sums1a nextSums1a bestFrom1a bestPath1a : Nat) (weights1 : Nat → Int32) (freshWeights1 : Nat → Int32) (signs1 : Nat → Int32) (lengths1 : Nat → Int32) (sums1 : Nat → Int64) (nextSums1 : Nat → Int64) (bestFrom1 : Nat → Int64) (bestPath1 : Nat → Int32) (i1 : Int32) (i2 : Int32) (ret9 : Int32) (h : f_X1_hasPlace i1 i2 lengths1 = some ret9) : CI l D cI cJ yX1_hasPlace wsX1_hasPlace 0 0 [.ref h1, .int i1, .int i2] (w1 cI cJ h1 weights1a freshWeights1a signs1a lengths1a sums1a nextSums1a bestFrom1a bestPath1a weights1 freshWeights1 signs1 lengths1 sums1 nextSums1 bestFrom1 bestPath1) (w1 cI cJ h1 weights1a freshWeights1a signs1a lengths1a sums1a nextSums1a bestFrom1a bestPath1a weights1 freshWeights1 signs1 lengths1 sums1 nextSums1 bestFrom1 bestPath1) ret9 := by
  refine entZ (cc := cX1_hasPlace) (maxL := 3) (by decide) rfl (Nat.le_of_ble_eq_true rfl) ?_
  intro p e s m args below meth c ls A Q X hret
  obtain ⟨hx, hb, hml, hts, hown, hK, hA, hP, hD, hS, hl, hnm⟩ := X
  have hown : s.vm.findClass RX1 = some m.cls := hown
  have hl : lv_has ls 3 [(0, .ref h1), (1, .int i1), (2, .int i2)] := hl
  have hw1 : (Cond.fieldLink RX1 21 "CountLearners$HiddenStates" "lengths" "[I").before args s = true := hts _ (by decide +kernel)
  have hinX1 : ∀ w ∈ wsX10, w ∈ wsX1_hasPlace := by decide +kernel
  unfold f_X1_hasPlace at h
  refine lv_iload_n hx hb dX1_hasPlace_0 rfl (lv_at hl 2 rfl) ?_
  refine lv_if_lt (tgt := 18) hx hb dX1_hasPlace_1 (by decide) (fun c_1 => ?_) (fun c_1 => ?_)
  · have h := it_p c_1 h
    refine lv_iconst (v := 0) hx hb dX1_hasPlace_18 (by decide) ?_
    cases h
    exact hret _ _ _ _ (Or.inl rfl) hP hD hS dX1_hasPlace_19
  · have h := it_n c_1 h
    refine lv_iload_n hx hb dX1_hasPlace_4 rfl (lv_at hl 2 rfl) ?_
    refine lv_aload_n hx hb dX1_hasPlace_5 rfl (lv_at hl 0 rfl) ?_
    refine va_get (D := D) (ci := 0) (v := .ref lengths1a) (C := RX1) (T := TX1) (N := 8) hx hb hts hinX1 hown hK.1 hP 0 rfl rfl 3 (by decide) hw1 (fun _ h9 => h9) rfl dX1_hasPlace_6 ?_
    refine lv_iload_n hx hb dX1_hasPlace_9 rfl (lv_at hl 1 rfl) ?_
    obtain ⟨hi_2, h⟩ := gA_s h
    refine va_iald hx hb hK.1 hP 4 0 rfl rfl hi_2 dX1_hasPlace_10 ?_
    refine lv_topi (fun v_3 ev_3 => ?_)
    have h := h v_3 ev_3
    refine lv_icmp_ge (tgt := 18) hx hb dX1_hasPlace_11 (by decide) (fun c_4 => ?_) (fun c_4 => ?_)
    · have h := it_p c_4 h
      refine lv_iconst (v := 0) hx hb dX1_hasPlace_18 (by decide) ?_
      cases h
      exact hret _ _ _ _ (Or.inl rfl) hP hD hS dX1_hasPlace_19
    · have h := it_n c_4 h
      refine lv_iconst (v := 1) hx hb dX1_hasPlace_14 (by decide) ?_
      refine lv_goto (tgt := 19) hx hb dX1_hasPlace_15 (by decide) ?_
      cases h
      exact hret _ _ _ _ (Or.inr rfl) hP hD hS dX1_hasPlace_19
def f_X1_weightOnward (i1 : Int32) (i2 : Int32) (i3 : Int32) (weights1 : Nat → Int32) (bestFrom1 : Nat → Int64) : Option (Int64) :=
  Option.bind (f_X1_moveAt i2 i3) fun r_1 =>
  gA 36 weights1 r_1 fun v_4 =>
  gA 20 bestFrom1 (((i1 + 1) * 4) + i3) fun v_6 =>
  some ((Int32.toInt64 v_4) * v_6)
set_option maxHeartbeats 4000000 in
set_option maxRecDepth 100000 in
theorem c_X1_weightOnward (l : Launch) (D : va_G) (cI cJ : ClassId) (h1 weights1a freshWeights1a signs1a lengths1a sums1a nextSums1a bestFrom1a bestPath1a : Nat) (weights1 : Nat → Int32) (freshWeights1 : Nat → Int32) (signs1 : Nat → Int32) (lengths1 : Nat → Int32) (sums1 : Nat → Int64) (nextSums1 : Nat → Int64) (bestFrom1 : Nat → Int64) (bestPath1 : Nat → Int32) (i1 : Int32) (i2 : Int32) (i3 : Int32) (ret9 : Int64) (h : f_X1_weightOnward i1 i2 i3 weights1 bestFrom1 = some ret9) : CL l D cI cJ yX1_weightOnward wsX1_weightOnward 1 21 [.ref h1, .int i1, .int i2, .int i3] (w1 cI cJ h1 weights1a freshWeights1a signs1a lengths1a sums1a nextSums1a bestFrom1a bestPath1a weights1 freshWeights1 signs1 lengths1 sums1 nextSums1 bestFrom1 bestPath1) (w1 cI cJ h1 weights1a freshWeights1a signs1a lengths1a sums1a nextSums1a bestFrom1a bestPath1a weights1 freshWeights1 signs1 lengths1 sums1 nextSums1 bestFrom1 bestPath1) ret9 := by
  refine entL (cc := cX1_weightOnward) (maxL := 4) (by decide) rfl (Nat.le_of_ble_eq_true rfl) ?_
  intro p e s m args below meth c ls A Q X hret
  obtain ⟨hx, hb, hml, hts, hown, hK, hA, hP, hD, hS, hl, hnm⟩ := X
  have hown : s.vm.findClass RX1 = some m.cls := hown
  have hl : lv_has ls 4 [(0, .ref h1), (1, .int i1), (2, .int i2), (3, .int i3)] := hl
  have hw1 : (Cond.fieldLink RX1 11 "CountLearners$HiddenStates" "weights" "[I").before args s = true := hts _ (by decide +kernel)
  have hinX1 : ∀ w ∈ wsX10, w ∈ wsX1_weightOnward := by decide +kernel
  have hw3 : (Cond.fieldLink RX1 31 "CountLearners$HiddenStates" "bestFrom" "[J").before args s = true := hts _ (by decide +kernel)
  unfold f_X1_weightOnward at h
  refine lv_aload_n hx hb dX1_weightOnward_0 rfl (lv_at hl 0 rfl) ?_
  refine va_get (D := D) (ci := 0) (v := .ref weights1a) (C := RX1) (T := TX1) (N := 8) hx hb hts hinX1 hown hK.1 hP 0 rfl rfl 0 (by decide) hw1 (fun _ h9 => h9) rfl dX1_weightOnward_1 ?_
  refine lv_iload_n hx hb dX1_weightOnward_4 rfl (lv_at hl 2 rfl) ?_
  refine lv_iload_n hx hb dX1_weightOnward_5 rfl (lv_at hl 3 rfl) ?_
  obtain ⟨r_1, hc_2, h⟩ := bd_s h
  refine callPi (As := [.int i2, .int i3]) (rest := [.ref weights1a]) ⟨hx, hb, hml, hown, hts⟩ (c_X1_moveAt l D cI cJ i2 i3 r_1 hc_2) (va_cwS 2 hts gX1_weightOnward_X1_moveAt rfl rfl rfl (by decide +kernel) ⟨Nat.le_of_ble_eq_true rfl, Nat.le_of_ble_eq_true rfl⟩) hK hP hD hS hA rfl hl.1 rfl (Nat.le_of_ble_eq_true rfl) dX1_weightOnward_6 ⟨Nat.zero_le _, Nat.zero_le _⟩ (fun H locs hP hD hS => ?_)
  obtain ⟨hi_3, h⟩ := gA_s h
  refine va_iald hx hb hK.1 hP 1 0 rfl rfl hi_3 dX1_weightOnward_9 ?_
  refine lv_topi (fun v_4 ev_4 => ?_)
  have h := h v_4 ev_4
  refine lv_i2l (v := (Int32.toInt64 v_4)) hx hb dX1_weightOnward_10 rfl ?_
  refine lv_aload_n hx hb dX1_weightOnward_11 rfl (lv_at hl 0 rfl) ?_
  refine va_get (D := D) (ci := 0) (v := .ref bestFrom1a) (C := RX1) (T := TX1) (N := 8) hx hb hts hinX1 hown hK.1 hP 0 rfl rfl 6 (by decide) hw3 (fun _ h9 => h9) rfl dX1_weightOnward_12 ?_
  refine lv_iload_n hx hb dX1_weightOnward_15 rfl (lv_at hl 1 rfl) ?_
  refine lv_iconst (v := 1) hx hb dX1_weightOnward_16 (by decide) ?_
  refine lv_iadd hx hb dX1_weightOnward_17 ?_
  refine lv_iconst (v := 4) hx hb dX1_weightOnward_18 (by decide) ?_
  refine lv_imul hx hb dX1_weightOnward_19 ?_
  refine lv_iload_n hx hb dX1_weightOnward_20 rfl (lv_at hl 3 rfl) ?_
  refine lv_iadd hx hb dX1_weightOnward_21 ?_
  obtain ⟨hi_5, h⟩ := gA_s h
  refine va_lald hx hb hK.1 hP 7 1 rfl rfl hi_5 dX1_weightOnward_22 ?_
  refine lv_topl (fun v_6 ev_6 => ?_)
  have h := h v_6 ev_6
  refine lv_lmul hx hb dX1_weightOnward_23 ?_
  cases h
  exact hret _ _ _ _ hP hD hS dX1_weightOnward_24
def f_X1_bestOnward_L5 (i1 : Int32) (i2 : Int32) (weights1 : Nat → Int32) (bestFrom1 : Nat → Int64) : Nat → Int32 → Int32 → Option (Int32 × Int32)
  | 0, _, _ => none
  | n + 1, y4_3, y3_4 =>
  if 4 ≤ y4_3 then
    some (y4_3, y3_4)
  else
    Option.bind (f_X1_weightOnward i1 i2 y4_3 weights1 bestFrom1) fun rj_8 =>
    Option.bind (f_X1_weightOnward i1 i2 y3_4 weights1 bestFrom1) fun rj_10 =>
    if (lg_cmp rj_8 rj_10) ≤ 0 then
      nm (α := Int32) (y4_3 + 1) fun x4_13 =>
      f_X1_bestOnward_L5 i1 i2 weights1 bestFrom1 n x4_13 y3_4
    else
      nm (α := Int32) (y4_3) fun x3_14 =>
      nm (α := Int32) (y4_3 + 1) fun x4_15 =>
      f_X1_bestOnward_L5 i1 i2 weights1 bestFrom1 n x4_15 x3_14
def f_X1_bestOnward (i1 : Int32) (i2 : Int32) (weights1 : Nat → Int32) (bestFrom1 : Nat → Int64) : Option (Int32) :=
  nm (α := Int32) (0) fun x3_1 =>
  nm (α := Int32) (1) fun x4_2 =>
  Option.bind (f_X1_bestOnward_L5 i1 i2 weights1 bestFrom1 FU x4_2 x3_1) fun (z4_16, z3_17) =>
  some z3_17
set_option maxHeartbeats 4000000 in
set_option maxRecDepth 100000 in
theorem c_X1_bestOnward (l : Launch) (D : va_G) (cI cJ : ClassId) (h1 weights1a freshWeights1a signs1a lengths1a sums1a nextSums1a bestFrom1a bestPath1a : Nat) (weights1 : Nat → Int32) (freshWeights1 : Nat → Int32) (signs1 : Nat → Int32) (lengths1 : Nat → Int32) (sums1 : Nat → Int64) (nextSums1 : Nat → Int64) (bestFrom1 : Nat → Int64) (bestPath1 : Nat → Int32) (i1 : Int32) (i2 : Int32) (ret9 : Int32) (h : f_X1_bestOnward i1 i2 weights1 bestFrom1 = some ret9) : CI l D cI cJ yX1_bestOnward wsX1_bestOnward 2 44 [.ref h1, .int i1, .int i2] (w1 cI cJ h1 weights1a freshWeights1a signs1a lengths1a sums1a nextSums1a bestFrom1a bestPath1a weights1 freshWeights1 signs1 lengths1 sums1 nextSums1 bestFrom1 bestPath1) (w1 cI cJ h1 weights1a freshWeights1a signs1a lengths1a sums1a nextSums1a bestFrom1a bestPath1a weights1 freshWeights1 signs1 lengths1 sums1 nextSums1 bestFrom1 bestPath1) ret9 := by
  refine entI (cc := cX1_bestOnward) (maxL := 5) (by decide) rfl (Nat.le_of_ble_eq_true rfl) ?_
  intro p e s m args below meth c ls A Q X hret
  obtain ⟨hx, hb, hml, hts, hown, hK, hA, hP, hD, hS, hl, hnm⟩ := X
  have hown : s.vm.findClass RX1 = some m.cls := hown
  have hl : lv_has ls 5 [(0, .ref h1), (1, .int i1), (2, .int i2)] := hl
  unfold f_X1_bestOnward at h
  refine lv_iconst (v := 0) hx hb dX1_bestOnward_0 (by decide) ?_
  refine lv_topi (fun x3_1 ex3_1 => ?_)
  have h := nm_s h x3_1 ex3_1
  refine lv_istore_n (lv' := [(3, .int x3_1), (0, .ref h1), (1, .int i1), (2, .int i2)]) hx hb dX1_bestOnward_1 rfl hl (by decide) rfl (fun ls hl => ?_)
  refine lv_iconst (v := 1) hx hb dX1_bestOnward_2 (by decide) ?_
  refine lv_topi (fun x4_2 ex4_2 => ?_)
  have h := nm_s h x4_2 ex4_2
  refine lv_istore (lv' := [(4, .int x4_2), (3, .int x3_1), (0, .ref h1), (1, .int i1), (2, .int i2)]) hx hb dX1_bestOnward_3 hl (by decide) rfl (fun ls hl => ?_)
  have L5 : ∀ (n : Nat) (y4_3 : Int32) (y3_4 : Int32) (z4_5 : Int32) (z3_6 : Int32), f_X1_bestOnward_L5 i1 i2 weights1 bestFrom1 n y4_3 y3_4 = some (z4_5, z3_6) → ∀ (H : Heap) (locs : List Loc) (ls : Array Slot), va_P D vwK (w1 cI cJ h1 weights1a freshWeights1a signs1a lengths1a sums1a nextSums1a bestFrom1a bestPath1a weights1 freshWeights1 signs1 lengths1 sums1 nextSums1 bestFrom1 bestPath1) H → va_D A (w1 cI cJ h1 weights1a freshWeights1a signs1a lengths1a sums1a nextSums1a bestFrom1a bestPath1a weights1 freshWeights1 signs1 lengths1 sums1 nextSums1 bestFrom1 bestPath1) → va_S A s.heap H locs → lv_has ls 5 [(4, .int y4_3), (3, .int y3_4), (0, .ref h1), (1, .int i1), (2, .int i2)] → (∀ (H : Heap) (locs : List Loc) (ls : Array Slot), va_P D vwK (w1 cI cJ h1 weights1a freshWeights1a signs1a lengths1a sums1a nextSums1a bestFrom1a bestPath1a weights1 freshWeights1 signs1 lengths1 sums1 nextSums1 bestFrom1 bestPath1) H → va_D A (w1 cI cJ h1 weights1a freshWeights1a signs1a lengths1a sums1a nextSums1a bestFrom1a bestPath1a weights1 freshWeights1 signs1 lengths1 sums1 nextSums1 bestFrom1 bestPath1) → va_S A s.heap H locs → lv_has ls 5 [(3, .int z3_6)] → W p l e (rmOf 2 44) s m args below meth c H locs 0 0 Q (F0 m 39 ls [])) → W p l e (rmOf 2 44) s m args below meth c H locs 0 0 Q (F0 m 5 ls []) := by
    intro n
    induction n with
    | zero => intro y4_3 y3_4 z4_5 z3_6 h; rw [f_X1_bestOnward_L5.eq_1] at h; cases h
    | succ n ih =>
      intro y4_3 y3_4 z4_5 z3_6 h H locs ls hP hD hS hl K
      rw [f_X1_bestOnward_L5.eq_2] at h
      refine lv_iload hx hb dX1_bestOnward_5 (lv_at hl 0 rfl) ?_
      refine lv_iconst (v := 4) hx hb dX1_bestOnward_7 (by decide) ?_
      refine lv_icmp_ge (tgt := 39) hx hb dX1_bestOnward_8 (by decide) (fun c_7 => ?_) (fun c_7 => ?_)
      · have h := it_p c_7 h
        cases h
        exact K _ _ _ hP hD hS (lv_sub hl [1] rfl)
      · have h := it_n c_7 h
        refine lv_aload_n hx hb dX1_bestOnward_11 rfl (lv_at hl 2 rfl) ?_
        refine lv_iload_n hx hb dX1_bestOnward_12 rfl (lv_at hl 3 rfl) ?_
        refine lv_iload_n hx hb dX1_bestOnward_13 rfl (lv_at hl 4 rfl) ?_
        refine lv_iload hx hb dX1_bestOnward_14 (lv_at hl 0 rfl) ?_
        obtain ⟨rj_8, hc_9, h⟩ := bd_s h
        refine callTl (As := [.int i1, .int i2, .int y4_3]) (rest := []) ⟨hx, hb, hml, hown, hts⟩ (c_X1_weightOnward l D cI cJ h1 weights1a freshWeights1a signs1a lengths1a sums1a nextSums1a bestFrom1a bestPath1a weights1 freshWeights1 signs1 lengths1 sums1 nextSums1 bestFrom1 bestPath1 i1 i2 y4_3 rj_8 hc_9) (cwV 3 hts gX1_bestOnward_X1_weightOnward rfl rfl rfl (by decide +kernel) ⟨Nat.le_of_ble_eq_true rfl, Nat.le_of_ble_eq_true rfl⟩) hK hP hD hS hA 0 0 rfl rfl rfl rfl hl.1 rfl (Nat.le_of_ble_eq_true rfl) dX1_bestOnward_16 ⟨Nat.zero_le _, Nat.zero_le _⟩ (fun H locs hP hD hS => ?_)
        refine lv_aload_n hx hb dX1_bestOnward_19 rfl (lv_at hl 2 rfl) ?_
        refine lv_iload_n hx hb dX1_bestOnward_20 rfl (lv_at hl 3 rfl) ?_
        refine lv_iload_n hx hb dX1_bestOnward_21 rfl (lv_at hl 4 rfl) ?_
        refine lv_iload_n hx hb dX1_bestOnward_22 rfl (lv_at hl 1 rfl) ?_
        obtain ⟨rj_10, hc_11, h⟩ := bd_s h
        refine callTl (As := [.int i1, .int i2, .int y3_4]) (rest := [.long rj_8]) ⟨hx, hb, hml, hown, hts⟩ (c_X1_weightOnward l D cI cJ h1 weights1a freshWeights1a signs1a lengths1a sums1a nextSums1a bestFrom1a bestPath1a weights1 freshWeights1 signs1 lengths1 sums1 nextSums1 bestFrom1 bestPath1 i1 i2 y3_4 rj_10 hc_11) (cwV 3 hts gX1_bestOnward_X1_weightOnward rfl rfl rfl (by decide +kernel) ⟨Nat.le_of_ble_eq_true rfl, Nat.le_of_ble_eq_true rfl⟩) hK hP hD hS hA 0 0 rfl rfl rfl rfl hl.1 rfl (Nat.le_of_ble_eq_true rfl) dX1_bestOnward_23 ⟨Nat.zero_le _, Nat.zero_le _⟩ (fun H locs hP hD hS => ?_)
        refine W.lcmp hx hb dX1_bestOnward_26 ?_
        refine lv_if_le (tgt := 33) hx hb dX1_bestOnward_27 (by decide) (fun c_12 => ?_) (fun c_12 => ?_)
        · have h := it_p c_12 h
          obtain ⟨x4_13, ex4_13⟩ : ∃ z : Int32, z = y4_3 + 1 := ⟨_, rfl⟩
          have h := nm_s h x4_13 ex4_13
          refine lv_iinc (v := x4_13) (lv' := [(4, .int x4_13), (3, .int y3_4), (0, .ref h1), (1, .int i1), (2, .int i2)]) hx hb dX1_bestOnward_33 hl (k := 0) rfl (by rw [ex4_13]; rfl) (by decide) rfl (fun ls hl => ?_)
          refine lv_goto (tgt := 5) hx hb dX1_bestOnward_36 (by decide) ?_
          exact ih _ _ _ _ h _ _ _ hP hD hS (lv_sub hl [0, 1, 2, 3, 4] rfl) K
        · have h := it_n c_12 h
          refine lv_iload hx hb dX1_bestOnward_30 (lv_at hl 0 rfl) ?_
          refine lv_topi (fun x3_14 ex3_14 => ?_)
          have h := nm_s h x3_14 ex3_14
          refine lv_istore_n (lv' := [(3, .int x3_14), (4, .int y4_3), (0, .ref h1), (1, .int i1), (2, .int i2)]) hx hb dX1_bestOnward_32 rfl hl (by decide) rfl (fun ls hl => ?_)
          obtain ⟨x4_15, ex4_15⟩ : ∃ z : Int32, z = y4_3 + 1 := ⟨_, rfl⟩
          have h := nm_s h x4_15 ex4_15
          refine lv_iinc (v := x4_15) (lv' := [(4, .int x4_15), (3, .int x3_14), (0, .ref h1), (1, .int i1), (2, .int i2)]) hx hb dX1_bestOnward_33 hl (k := 1) rfl (by rw [ex4_15]; rfl) (by decide) rfl (fun ls hl => ?_)
          refine lv_goto (tgt := 5) hx hb dX1_bestOnward_36 (by decide) ?_
          exact ih _ _ _ _ h _ _ _ hP hD hS (lv_sub hl [0, 1, 2, 3, 4] rfl) K
  obtain ⟨⟨z4_16, z3_17⟩, hl_18, h⟩ := bd_s h
  refine L5 FU x4_2 x3_1 _ _ hl_18 _ _ _ hP hD hS (lv_sub hl [0, 1, 2, 3, 4] rfl) (fun H locs ls hP hD hS hl => ?_)
  refine lv_iload_n hx hb dX1_bestOnward_39 rfl (lv_at hl 0 rfl) ?_
  cases h
  exact hret _ _ _ _ hP hD hS dX1_bestOnward_40
def f_X1_shown (i1 : Int32) (i2 : Int32) (i3 : Int32) (weights1 : Nat → Int32) (signs1 : Nat → Int32) : Option (Int32) :=
  gA 20 signs1 ((i1 * 5) + i2) fun v_2 =>
  Option.bind (f_X1_showAt i3 v_2) fun r_3 =>
  gA 36 weights1 r_3 fun v_6 =>
  some v_6
set_option maxHeartbeats 4000000 in
set_option maxRecDepth 100000 in
theorem c_X1_shown (l : Launch) (D : va_G) (cI cJ : ClassId) (h1 weights1a freshWeights1a signs1a lengths1a sums1a nextSums1a bestFrom1a bestPath1a : Nat) (weights1 : Nat → Int32) (freshWeights1 : Nat → Int32) (signs1 : Nat → Int32) (lengths1 : Nat → Int32) (sums1 : Nat → Int64) (nextSums1 : Nat → Int64) (bestFrom1 : Nat → Int64) (bestPath1 : Nat → Int32) (i1 : Int32) (i2 : Int32) (i3 : Int32) (ret9 : Int32) (h : f_X1_shown i1 i2 i3 weights1 signs1 = some ret9) : CI l D cI cJ yX1_shown wsX1_shown 1 21 [.ref h1, .int i1, .int i2, .int i3] (w1 cI cJ h1 weights1a freshWeights1a signs1a lengths1a sums1a nextSums1a bestFrom1a bestPath1a weights1 freshWeights1 signs1 lengths1 sums1 nextSums1 bestFrom1 bestPath1) (w1 cI cJ h1 weights1a freshWeights1a signs1a lengths1a sums1a nextSums1a bestFrom1a bestPath1a weights1 freshWeights1 signs1 lengths1 sums1 nextSums1 bestFrom1 bestPath1) ret9 := by
  refine entI (cc := cX1_shown) (maxL := 4) (by decide) rfl (Nat.le_of_ble_eq_true rfl) ?_
  intro p e s m args below meth c ls A Q X hret
  obtain ⟨hx, hb, hml, hts, hown, hK, hA, hP, hD, hS, hl, hnm⟩ := X
  have hown : s.vm.findClass RX1 = some m.cls := hown
  have hl : lv_has ls 4 [(0, .ref h1), (1, .int i1), (2, .int i2), (3, .int i3)] := hl
  have hw1 : (Cond.fieldLink RX1 11 "CountLearners$HiddenStates" "weights" "[I").before args s = true := hts _ (by decide +kernel)
  have hinX1 : ∀ w ∈ wsX10, w ∈ wsX1_shown := by decide +kernel
  have hw3 : (Cond.fieldLink RX1 18 "CountLearners$HiddenStates" "signs" "[I").before args s = true := hts _ (by decide +kernel)
  unfold f_X1_shown at h
  refine lv_aload_n hx hb dX1_shown_0 rfl (lv_at hl 0 rfl) ?_
  refine va_get (D := D) (ci := 0) (v := .ref weights1a) (C := RX1) (T := TX1) (N := 8) hx hb hts hinX1 hown hK.1 hP 0 rfl rfl 0 (by decide) hw1 (fun _ h9 => h9) rfl dX1_shown_1 ?_
  refine lv_iload_n hx hb dX1_shown_4 rfl (lv_at hl 3 rfl) ?_
  refine lv_aload_n hx hb dX1_shown_5 rfl (lv_at hl 0 rfl) ?_
  refine va_get (D := D) (ci := 0) (v := .ref signs1a) (C := RX1) (T := TX1) (N := 8) hx hb hts hinX1 hown hK.1 hP 0 rfl rfl 2 (by decide) hw3 (fun _ h9 => h9) rfl dX1_shown_6 ?_
  refine lv_iload_n hx hb dX1_shown_9 rfl (lv_at hl 1 rfl) ?_
  refine lv_iconst (v := 5) hx hb dX1_shown_10 (by decide) ?_
  refine lv_imul hx hb dX1_shown_11 ?_
  refine lv_iload_n hx hb dX1_shown_12 rfl (lv_at hl 2 rfl) ?_
  refine lv_iadd hx hb dX1_shown_13 ?_
  obtain ⟨hi_1, h⟩ := gA_s h
  refine va_iald hx hb hK.1 hP 3 0 rfl rfl hi_1 dX1_shown_14 ?_
  refine lv_topi (fun v_2 ev_2 => ?_)
  have h := h v_2 ev_2
  obtain ⟨r_3, hc_4, h⟩ := bd_s h
  refine callPi (As := [.int i3, .int v_2]) (rest := [.ref weights1a]) ⟨hx, hb, hml, hown, hts⟩ (c_X1_showAt l D cI cJ i3 v_2 r_3 hc_4) (va_cwS 2 hts gX1_shown_X1_showAt rfl rfl rfl (by decide +kernel) ⟨Nat.le_of_ble_eq_true rfl, Nat.le_of_ble_eq_true rfl⟩) hK hP hD hS hA rfl hl.1 rfl (Nat.le_of_ble_eq_true rfl) dX1_shown_15 ⟨Nat.zero_le _, Nat.zero_le _⟩ (fun H locs hP hD hS => ?_)
  obtain ⟨hi_5, h⟩ := gA_s h
  refine va_iald hx hb hK.1 hP 1 0 rfl rfl hi_5 dX1_shown_18 ?_
  refine lv_topi (fun v_6 ev_6 => ?_)
  have h := h v_6 ev_6
  cases h
  exact hret _ _ _ _ hP hD hS dX1_shown_19
def f_X1_bestStart_L4 (weights1 : Nat → Int32) (bestFrom1 : Nat → Int64) : Nat → Int32 → Int32 → Option (Int32 × Int32)
  | 0, _, _ => none
  | n + 1, y2_3, y1_4 =>
  if 4 ≤ y2_3 then
    some (y2_3, y1_4)
  else
    gA 36 weights1 y2_3 fun v_9 =>
    gA 20 bestFrom1 y2_3 fun v_11 =>
    gA 36 weights1 y1_4 fun v_13 =>
    gA 20 bestFrom1 y1_4 fun v_15 =>
    if (lg_cmp ((Int32.toInt64 v_9) * v_11) ((Int32.toInt64 v_13) * v_15)) ≤ 0 then
      nm (α := Int32) (y2_3 + 1) fun x2_17 =>
      f_X1_bestStart_L4 weights1 bestFrom1 n x2_17 y1_4
    else
      nm (α := Int32) (y2_3) fun x1_18 =>
      nm (α := Int32) (y2_3 + 1) fun x2_19 =>
      f_X1_bestStart_L4 weights1 bestFrom1 n x2_19 x1_18
def f_X1_bestStart (weights1 : Nat → Int32) (bestFrom1 : Nat → Int64) : Option (Int32) :=
  nm (α := Int32) (0) fun x1_1 =>
  nm (α := Int32) (1) fun x2_2 =>
  Option.bind (f_X1_bestStart_L4 weights1 bestFrom1 FU x2_2 x1_1) fun (z2_20, z1_21) =>
  some z1_21
set_option maxHeartbeats 4000000 in
set_option maxRecDepth 100000 in
theorem c_X1_bestStart (l : Launch) (D : va_G) (cI cJ : ClassId) (h1 weights1a freshWeights1a signs1a lengths1a sums1a nextSums1a bestFrom1a bestPath1a : Nat) (weights1 : Nat → Int32) (freshWeights1 : Nat → Int32) (signs1 : Nat → Int32) (lengths1 : Nat → Int32) (sums1 : Nat → Int64) (nextSums1 : Nat → Int64) (bestFrom1 : Nat → Int64) (bestPath1 : Nat → Int32) (ret9 : Int32) (h : f_X1_bestStart weights1 bestFrom1 = some ret9) : CI l D cI cJ yX1_bestStart wsX1_bestStart 0 0 [.ref h1] (w1 cI cJ h1 weights1a freshWeights1a signs1a lengths1a sums1a nextSums1a bestFrom1a bestPath1a weights1 freshWeights1 signs1 lengths1 sums1 nextSums1 bestFrom1 bestPath1) (w1 cI cJ h1 weights1a freshWeights1a signs1a lengths1a sums1a nextSums1a bestFrom1a bestPath1a weights1 freshWeights1 signs1 lengths1 sums1 nextSums1 bestFrom1 bestPath1) ret9 := by
  refine entI (cc := cX1_bestStart) (maxL := 3) (by decide) rfl (Nat.le_of_ble_eq_true rfl) ?_
  intro p e s m args below meth c ls A Q X hret
  obtain ⟨hx, hb, hml, hts, hown, hK, hA, hP, hD, hS, hl, hnm⟩ := X
  have hown : s.vm.findClass RX1 = some m.cls := hown
  have hl : lv_has ls 3 [(0, .ref h1)] := hl
  have hw1 : (Cond.fieldLink RX1 11 "CountLearners$HiddenStates" "weights" "[I").before args s = true := hts _ (by decide +kernel)
  have hinX1 : ∀ w ∈ wsX10, w ∈ wsX1_bestStart := by decide +kernel
  have hw3 : (Cond.fieldLink RX1 31 "CountLearners$HiddenStates" "bestFrom" "[J").before args s = true := hts _ (by decide +kernel)
  unfold f_X1_bestStart at h
  refine lv_iconst (v := 0) hx hb dX1_bestStart_0 (by decide) ?_
  refine lv_topi (fun x1_1 ex1_1 => ?_)
  have h := nm_s h x1_1 ex1_1
  refine lv_istore_n (lv' := [(1, .int x1_1), (0, .ref h1)]) hx hb dX1_bestStart_1 rfl hl (by decide) rfl (fun ls hl => ?_)
  refine lv_iconst (v := 1) hx hb dX1_bestStart_2 (by decide) ?_
  refine lv_topi (fun x2_2 ex2_2 => ?_)
  have h := nm_s h x2_2 ex2_2
  refine lv_istore_n (lv' := [(2, .int x2_2), (1, .int x1_1), (0, .ref h1)]) hx hb dX1_bestStart_3 rfl hl (by decide) rfl (fun ls hl => ?_)
  have L4 : ∀ (n : Nat) (y2_3 : Int32) (y1_4 : Int32) (z2_5 : Int32) (z1_6 : Int32), f_X1_bestStart_L4 weights1 bestFrom1 n y2_3 y1_4 = some (z2_5, z1_6) → ∀ (H : Heap) (locs : List Loc) (ls : Array Slot), va_P D vwK (w1 cI cJ h1 weights1a freshWeights1a signs1a lengths1a sums1a nextSums1a bestFrom1a bestPath1a weights1 freshWeights1 signs1 lengths1 sums1 nextSums1 bestFrom1 bestPath1) H → va_D A (w1 cI cJ h1 weights1a freshWeights1a signs1a lengths1a sums1a nextSums1a bestFrom1a bestPath1a weights1 freshWeights1 signs1 lengths1 sums1 nextSums1 bestFrom1 bestPath1) → va_S A s.heap H locs → lv_has ls 3 [(2, .int y2_3), (1, .int y1_4), (0, .ref h1)] → (∀ (H : Heap) (locs : List Loc) (ls : Array Slot), va_P D vwK (w1 cI cJ h1 weights1a freshWeights1a signs1a lengths1a sums1a nextSums1a bestFrom1a bestPath1a weights1 freshWeights1 signs1 lengths1 sums1 nextSums1 bestFrom1 bestPath1) H → va_D A (w1 cI cJ h1 weights1a freshWeights1a signs1a lengths1a sums1a nextSums1a bestFrom1a bestPath1a weights1 freshWeights1 signs1 lengths1 sums1 nextSums1 bestFrom1 bestPath1) → va_S A s.heap H locs → lv_has ls 3 [(1, .int z1_6)] → W p l e (rmOf 0 0) s m args below meth c H locs 0 0 Q (F0 m 49 ls [])) → W p l e (rmOf 0 0) s m args below meth c H locs 0 0 Q (F0 m 4 ls []) := by
    intro n
    induction n with
    | zero => intro y2_3 y1_4 z2_5 z1_6 h; rw [f_X1_bestStart_L4.eq_1] at h; cases h
    | succ n ih =>
      intro y2_3 y1_4 z2_5 z1_6 h H locs ls hP hD hS hl K
      rw [f_X1_bestStart_L4.eq_2] at h
      refine lv_iload_n hx hb dX1_bestStart_4 rfl (lv_at hl 0 rfl) ?_
      refine lv_iconst (v := 4) hx hb dX1_bestStart_5 (by decide) ?_
      refine lv_icmp_ge (tgt := 49) hx hb dX1_bestStart_6 (by decide) (fun c_7 => ?_) (fun c_7 => ?_)
      · have h := it_p c_7 h
        cases h
        exact K _ _ _ hP hD hS (lv_sub hl [1] rfl)
      · have h := it_n c_7 h
        refine lv_aload_n hx hb dX1_bestStart_9 rfl (lv_at hl 2 rfl) ?_
        refine va_get (D := D) (ci := 0) (v := .ref weights1a) (C := RX1) (T := TX1) (N := 8) hx hb hts hinX1 hown hK.1 hP 0 rfl rfl 0 (by decide) hw1 (fun _ h9 => h9) rfl dX1_bestStart_10 ?_
        refine lv_iload_n hx hb dX1_bestStart_13 rfl (lv_at hl 0 rfl) ?_
        obtain ⟨hi_8, h⟩ := gA_s h
        refine va_iald hx hb hK.1 hP 1 0 rfl rfl hi_8 dX1_bestStart_14 ?_
        refine lv_topi (fun v_9 ev_9 => ?_)
        have h := h v_9 ev_9
        refine lv_i2l (v := (Int32.toInt64 v_9)) hx hb dX1_bestStart_15 rfl ?_
        refine lv_aload_n hx hb dX1_bestStart_16 rfl (lv_at hl 2 rfl) ?_
        refine va_get (D := D) (ci := 0) (v := .ref bestFrom1a) (C := RX1) (T := TX1) (N := 8) hx hb hts hinX1 hown hK.1 hP 0 rfl rfl 6 (by decide) hw3 (fun _ h9 => h9) rfl dX1_bestStart_17 ?_
        refine lv_iload_n hx hb dX1_bestStart_20 rfl (lv_at hl 0 rfl) ?_
        obtain ⟨hi_10, h⟩ := gA_s h
        refine va_lald hx hb hK.1 hP 7 1 rfl rfl hi_10 dX1_bestStart_21 ?_
        refine lv_topl (fun v_11 ev_11 => ?_)
        have h := h v_11 ev_11
        refine lv_lmul hx hb dX1_bestStart_22 ?_
        refine lv_aload_n hx hb dX1_bestStart_23 rfl (lv_at hl 2 rfl) ?_
        refine va_get (D := D) (ci := 0) (v := .ref weights1a) (C := RX1) (T := TX1) (N := 8) hx hb hts hinX1 hown hK.1 hP 0 rfl rfl 0 (by decide) hw1 (fun _ h9 => h9) rfl dX1_bestStart_24 ?_
        refine lv_iload_n hx hb dX1_bestStart_27 rfl (lv_at hl 1 rfl) ?_
        obtain ⟨hi_12, h⟩ := gA_s h
        refine va_iald hx hb hK.1 hP 1 0 rfl rfl hi_12 dX1_bestStart_28 ?_
        refine lv_topi (fun v_13 ev_13 => ?_)
        have h := h v_13 ev_13
        refine lv_i2l (v := (Int32.toInt64 v_13)) hx hb dX1_bestStart_29 rfl ?_
        refine lv_aload_n hx hb dX1_bestStart_30 rfl (lv_at hl 2 rfl) ?_
        refine va_get (D := D) (ci := 0) (v := .ref bestFrom1a) (C := RX1) (T := TX1) (N := 8) hx hb hts hinX1 hown hK.1 hP 0 rfl rfl 6 (by decide) hw3 (fun _ h9 => h9) rfl dX1_bestStart_31 ?_
        refine lv_iload_n hx hb dX1_bestStart_34 rfl (lv_at hl 1 rfl) ?_
        obtain ⟨hi_14, h⟩ := gA_s h
        refine va_lald hx hb hK.1 hP 7 1 rfl rfl hi_14 dX1_bestStart_35 ?_
        refine lv_topl (fun v_15 ev_15 => ?_)
        have h := h v_15 ev_15
        refine lv_lmul hx hb dX1_bestStart_36 ?_
        refine W.lcmp hx hb dX1_bestStart_37 ?_
        refine lv_if_le (tgt := 43) hx hb dX1_bestStart_38 (by decide) (fun c_16 => ?_) (fun c_16 => ?_)
        · have h := it_p c_16 h
          obtain ⟨x2_17, ex2_17⟩ : ∃ z : Int32, z = y2_3 + 1 := ⟨_, rfl⟩
          have h := nm_s h x2_17 ex2_17
          refine lv_iinc (v := x2_17) (lv' := [(2, .int x2_17), (1, .int y1_4), (0, .ref h1)]) hx hb dX1_bestStart_43 hl (k := 0) rfl (by rw [ex2_17]; rfl) (by decide) rfl (fun ls hl => ?_)
          refine lv_goto (tgt := 4) hx hb dX1_bestStart_46 (by decide) ?_
          exact ih _ _ _ _ h _ _ _ hP hD hS (lv_sub hl [0, 1, 2] rfl) K
        · have h := it_n c_16 h
          refine lv_iload_n hx hb dX1_bestStart_41 rfl (lv_at hl 0 rfl) ?_
          refine lv_topi (fun x1_18 ex1_18 => ?_)
          have h := nm_s h x1_18 ex1_18
          refine lv_istore_n (lv' := [(1, .int x1_18), (2, .int y2_3), (0, .ref h1)]) hx hb dX1_bestStart_42 rfl hl (by decide) rfl (fun ls hl => ?_)
          obtain ⟨x2_19, ex2_19⟩ : ∃ z : Int32, z = y2_3 + 1 := ⟨_, rfl⟩
          have h := nm_s h x2_19 ex2_19
          refine lv_iinc (v := x2_19) (lv' := [(2, .int x2_19), (1, .int x1_18), (0, .ref h1)]) hx hb dX1_bestStart_43 hl (k := 1) rfl (by rw [ex2_19]; rfl) (by decide) rfl (fun ls hl => ?_)
          refine lv_goto (tgt := 4) hx hb dX1_bestStart_46 (by decide) ?_
          exact ih _ _ _ _ h _ _ _ hP hD hS (lv_sub hl [0, 1, 2] rfl) K
  obtain ⟨⟨z2_20, z1_21⟩, hl_22, h⟩ := bd_s h
  refine L4 FU x2_2 x1_1 _ _ hl_22 _ _ _ hP hD hS (lv_sub hl [0, 1, 2] rfl) (fun H locs ls hP hD hS hl => ?_)
  refine lv_iload_n hx hb dX1_bestStart_49 rfl (lv_at hl 0 rfl) ?_
  cases h
  exact hret _ _ _ _ hP hD hS dX1_bestStart_50
def f_X1_findBestPath_L24 (y3_6 : Int32) (x2_3 : Int32) (i1 : Int32) (weights1 : Nat → Int32) (signs1 : Nat → Int32) : Nat → Int32 → (Nat → Int64) → Option (Int32 × (Nat → Int64))
  | 0, _, _ => none
  | n + 1, y4_12, bestFrom1_13 =>
  if 4 ≤ y4_12 then
    some (y4_12, bestFrom1_13)
  else
    if y3_6 = (x2_3 - 1) then
      nm (α := Int64) (1) fun j5_28 =>
      Option.bind (f_X1_shown i1 y3_6 y4_12 weights1 signs1) fun r_29 =>
      sL 20 bestFrom1_13 ((y3_6 * 4) + y4_12) ((Int32.toInt64 r_29) * j5_28) fun bestFrom1_32 =>
      nm (α := Int32) (y4_12 + 1) fun x4_33 =>
      f_X1_findBestPath_L24 y3_6 x2_3 i1 weights1 signs1 n x4_33 bestFrom1_32
    else
      Option.bind (f_X1_bestOnward y3_6 y4_12 weights1 bestFrom1_13) fun r_18 =>
      Option.bind (f_X1_weightOnward y3_6 y4_12 r_18 weights1 bestFrom1_13) fun rj_20 =>
      nm (α := Int64) (rj_20) fun j5_22 =>
      Option.bind (f_X1_shown i1 y3_6 y4_12 weights1 signs1) fun r_23 =>
      sL 20 bestFrom1_13 ((y3_6 * 4) + y4_12) ((Int32.toInt64 r_23) * j5_22) fun bestFrom1_26 =>
      nm (α := Int32) (y4_12 + 1) fun x4_27 =>
      f_X1_findBestPath_L24 y3_6 x2_3 i1 weights1 signs1 n x4_27 bestFrom1_26
def f_X1_findBestPath_L17 (x2_3 : Int32) (i1 : Int32) (weights1 : Nat → Int32) (signs1 : Nat → Int32) : Nat → Int32 → (Nat → Int64) → Option (Int32 × (Nat → Int64))
  | 0, _, _ => none
  | n + 1, y3_6, bestFrom1_7 =>
  if y3_6 < 0 then
    some (y3_6, bestFrom1_7)
  else
    nm (α := Int32) (0) fun x4_11 =>
    Option.bind (f_X1_findBestPath_L24 y3_6 x2_3 i1 weights1 signs1 FU x4_11 bestFrom1_7) fun (z4_34, bestFrom1_35) =>
    nm (α := Int32) (y3_6 + (-1)) fun x3_37 =>
    f_X1_findBestPath_L17 x2_3 i1 weights1 signs1 n x3_37 bestFrom1_35
def f_X1_findBestPath_L107 (x2_3 : Int32) (weights1 : Nat → Int32) (bestFrom1_39 : Nat → Int64) : Nat → Int32 → (Nat → Int32) → Option (Int32 × (Nat → Int32))
  | 0, _, _ => none
  | n + 1, y4_47, bestPath1_48 =>
  if x2_3 ≤ y4_47 then
    some (y4_47, bestPath1_48)
  else
    gA 5 bestPath1_48 (y4_47 - 1) fun v_53 =>
    Option.bind (f_X1_bestOnward (y4_47 - 1) v_53 weights1 bestFrom1_39) fun r_54 =>
    sI 5 bestPath1_48 y4_47 r_54 fun bestPath1_57 =>
    nm (α := Int32) (y4_47 + 1) fun x4_58 =>
    f_X1_findBestPath_L107 x2_3 weights1 bestFrom1_39 n x4_58 bestPath1_57
def f_X1_findBestPath (i1 : Int32) (weights1 : Nat → Int32) (signs1 : Nat → Int32) (lengths1 : Nat → Int32) (bestFrom1 : Nat → Int64) (bestPath1 : Nat → Int32) : Option (Int32 × (Nat → Int64) × (Nat → Int32)) :=
  gA 4 lengths1 i1 fun v_2 =>
  nm (α := Int32) (v_2) fun x2_3 =>
  if x2_3 = 0 then
    some (0, bestFrom1, bestPath1)
  else
    nm (α := Int32) ((x2_3 - 1)) fun x3_5 =>
    Option.bind (f_X1_findBestPath_L17 x2_3 i1 weights1 signs1 FU x3_5 bestFrom1) fun (z3_38, bestFrom1_39) =>
    Option.bind (f_X1_bestStart weights1 bestFrom1_39) fun r_41 =>
    nm (α := Int32) (r_41) fun x3_43 =>
    sI 5 bestPath1 0 x3_43 fun bestPath1_45 =>
    nm (α := Int32) (1) fun x4_46 =>
    Option.bind (f_X1_findBestPath_L107 x2_3 weights1 bestFrom1_39 FU x4_46 bestPath1_45) fun (z4_59, bestPath1_60) =>
    gA 36 weights1 x3_43 fun v_63 =>
    gA 20 bestFrom1_39 x3_43 fun v_65 =>
    if (lg_cmp ((Int32.toInt64 v_63) * v_65) 0) ≤ 0 then
      some (0, bestFrom1_39, bestPath1_60)
    else
      some (1, bestFrom1_39, bestPath1_60)
set_option maxHeartbeats 4000000 in
set_option maxRecDepth 100000 in
theorem c_X1_findBestPath (l : Launch) (D : va_G) (cI cJ : ClassId) (h1 weights1a freshWeights1a signs1a lengths1a sums1a nextSums1a bestFrom1a bestPath1a : Nat) (weights1 : Nat → Int32) (freshWeights1 : Nat → Int32) (signs1 : Nat → Int32) (lengths1 : Nat → Int32) (sums1 : Nat → Int64) (nextSums1 : Nat → Int64) (bestFrom1 : Nat → Int64) (bestPath1 : Nat → Int32) (i1 : Int32) (ret9 : Int32) (bestFrom1z : Nat → Int64) (bestPath1z : Nat → Int32) (h : f_X1_findBestPath i1 weights1 signs1 lengths1 bestFrom1 bestPath1 = some (ret9, bestFrom1z, bestPath1z)) : CI l D cI cJ yX1_findBestPath wsX1_findBestPath 3 68 [.ref h1, .int i1] (w1 cI cJ h1 weights1a freshWeights1a signs1a lengths1a sums1a nextSums1a bestFrom1a bestPath1a weights1 freshWeights1 signs1 lengths1 sums1 nextSums1 bestFrom1 bestPath1) (w1 cI cJ h1 weights1a freshWeights1a signs1a lengths1a sums1a nextSums1a bestFrom1a bestPath1a weights1 freshWeights1 signs1 lengths1 sums1 nextSums1 bestFrom1z bestPath1z) ret9 := by
  refine entZ (cc := cX1_findBestPath) (maxL := 7) (by decide) rfl (Nat.le_of_ble_eq_true rfl) ?_
  intro p e s m args below meth c ls A Q X hret
  obtain ⟨hx, hb, hml, hts, hown, hK, hA, hP, hD, hS, hl, hnm⟩ := X
  have hown : s.vm.findClass RX1 = some m.cls := hown
  have hl : lv_has ls 7 [(0, .ref h1), (1, .int i1)] := hl
  have hw1 : (Cond.fieldLink RX1 21 "CountLearners$HiddenStates" "lengths" "[I").before args s = true := hts _ (by decide +kernel)
  have hinX1 : ∀ w ∈ wsX10, w ∈ wsX1_findBestPath := by decide +kernel
  have hw3 : (Cond.fieldLink RX1 31 "CountLearners$HiddenStates" "bestFrom" "[J").before args s = true := hts _ (by decide +kernel)
  have hw4 : (Cond.fieldLink RX1 34 "CountLearners$HiddenStates" "bestPath" "[I").before args s = true := hts _ (by decide +kernel)
  have hw5 : (Cond.fieldLink RX1 11 "CountLearners$HiddenStates" "weights" "[I").before args s = true := hts _ (by decide +kernel)
  unfold f_X1_findBestPath at h
  refine lv_aload_n hx hb dX1_findBestPath_0 rfl (lv_at hl 0 rfl) ?_
  refine va_get (D := D) (ci := 0) (v := .ref lengths1a) (C := RX1) (T := TX1) (N := 8) hx hb hts hinX1 hown hK.1 hP 0 rfl rfl 3 (by decide) hw1 (fun _ h9 => h9) rfl dX1_findBestPath_1 ?_
  refine lv_iload_n hx hb dX1_findBestPath_4 rfl (lv_at hl 1 rfl) ?_
  obtain ⟨hi_1, h⟩ := gA_s h
  refine va_iald hx hb hK.1 hP 4 0 rfl rfl hi_1 dX1_findBestPath_5 ?_
  refine lv_topi (fun v_2 ev_2 => ?_)
  have h := h v_2 ev_2
  refine lv_topi (fun x2_3 ex2_3 => ?_)
  have h := nm_s h x2_3 ex2_3
  refine lv_istore_n (lv' := [(2, .int x2_3), (0, .ref h1), (1, .int i1)]) hx hb dX1_findBestPath_6 rfl hl (by decide) rfl (fun ls hl => ?_)
  refine lv_iload_n hx hb dX1_findBestPath_7 rfl (lv_at hl 0 rfl) ?_
  refine lv_if_ne (tgt := 13) hx hb dX1_findBestPath_8 (by decide) (fun c_4 => ?_) (fun c_4 => ?_)
  · have h := it_n c_4 h
    refine lv_iload_n hx hb dX1_findBestPath_13 rfl (lv_at hl 0 rfl) ?_
    refine lv_iconst (v := 1) hx hb dX1_findBestPath_14 (by decide) ?_
    refine lv_isub hx hb dX1_findBestPath_15 ?_
    refine lv_topi (fun x3_5 ex3_5 => ?_)
    have h := nm_s h x3_5 ex3_5
    refine lv_istore_n (lv' := [(3, .int x3_5), (2, .int x2_3), (0, .ref h1), (1, .int i1)]) hx hb dX1_findBestPath_16 rfl hl (by decide) rfl (fun ls hl => ?_)
    have L17 : ∀ (n : Nat) (y3_6 : Int32) (bestFrom1_7 : Nat → Int64) (z3_8 : Int32) (bestFrom1_9 : Nat → Int64), f_X1_findBestPath_L17 x2_3 i1 weights1 signs1 n y3_6 bestFrom1_7 = some (z3_8, bestFrom1_9) → ∀ (H : Heap) (locs : List Loc) (ls : Array Slot), va_P D vwK (w1 cI cJ h1 weights1a freshWeights1a signs1a lengths1a sums1a nextSums1a bestFrom1a bestPath1a weights1 freshWeights1 signs1 lengths1 sums1 nextSums1 bestFrom1_7 bestPath1) H → va_D A (w1 cI cJ h1 weights1a freshWeights1a signs1a lengths1a sums1a nextSums1a bestFrom1a bestPath1a weights1 freshWeights1 signs1 lengths1 sums1 nextSums1 bestFrom1_7 bestPath1) → va_S A s.heap H locs → lv_has ls 7 [(3, .int y3_6), (2, .int x2_3), (0, .ref h1), (1, .int i1)] → (∀ (H : Heap) (locs : List Loc) (ls : Array Slot), va_P D vwK (w1 cI cJ h1 weights1a freshWeights1a signs1a lengths1a sums1a nextSums1a bestFrom1a bestPath1a weights1 freshWeights1 signs1 lengths1 sums1 nextSums1 bestFrom1_9 bestPath1) H → va_D A (w1 cI cJ h1 weights1a freshWeights1a signs1a lengths1a sums1a nextSums1a bestFrom1a bestPath1a weights1 freshWeights1 signs1 lengths1 sums1 nextSums1 bestFrom1_9 bestPath1) → va_S A s.heap H locs → lv_has ls 7 [(2, .int x2_3), (0, .ref h1)] → W p l e (rmOf 3 68) s m args below meth c H locs 0 0 Q (F0 m 92 ls [])) → W p l e (rmOf 3 68) s m args below meth c H locs 0 0 Q (F0 m 17 ls []) := by
      intro n
      induction n with
      | zero => intro y3_6 bestFrom1_7 z3_8 bestFrom1_9 h; rw [f_X1_findBestPath_L17.eq_1] at h; cases h
      | succ n ih =>
        intro y3_6 bestFrom1_7 z3_8 bestFrom1_9 h H locs ls hP hD hS hl K
        rw [f_X1_findBestPath_L17.eq_2] at h
        refine lv_iload_n hx hb dX1_findBestPath_17 rfl (lv_at hl 0 rfl) ?_
        refine lv_if_lt (tgt := 92) hx hb dX1_findBestPath_18 (by decide) (fun c_10 => ?_) (fun c_10 => ?_)
        · have h := it_p c_10 h
          cases h
          exact K _ _ _ hP hD hS (lv_sub hl [1, 2] rfl)
        · have h := it_n c_10 h
          refine lv_iconst (v := 0) hx hb dX1_findBestPath_21 (by decide) ?_
          refine lv_topi (fun x4_11 ex4_11 => ?_)
          have h := nm_s h x4_11 ex4_11
          refine lv_istore (lv' := [(4, .int x4_11), (3, .int y3_6), (2, .int x2_3), (0, .ref h1), (1, .int i1)]) hx hb dX1_findBestPath_22 hl (by decide) rfl (fun ls hl => ?_)
          have L24 : ∀ (n : Nat) (y4_12 : Int32) (bestFrom1_13 : Nat → Int64) (z4_14 : Int32) (bestFrom1_15 : Nat → Int64), f_X1_findBestPath_L24 y3_6 x2_3 i1 weights1 signs1 n y4_12 bestFrom1_13 = some (z4_14, bestFrom1_15) → ∀ (H : Heap) (locs : List Loc) (ls : Array Slot), va_P D vwK (w1 cI cJ h1 weights1a freshWeights1a signs1a lengths1a sums1a nextSums1a bestFrom1a bestPath1a weights1 freshWeights1 signs1 lengths1 sums1 nextSums1 bestFrom1_13 bestPath1) H → va_D A (w1 cI cJ h1 weights1a freshWeights1a signs1a lengths1a sums1a nextSums1a bestFrom1a bestPath1a weights1 freshWeights1 signs1 lengths1 sums1 nextSums1 bestFrom1_13 bestPath1) → va_S A s.heap H locs → lv_has ls 7 [(4, .int y4_12), (3, .int y3_6), (2, .int x2_3), (0, .ref h1), (1, .int i1)] → (∀ (H : Heap) (locs : List Loc) (ls : Array Slot), va_P D vwK (w1 cI cJ h1 weights1a freshWeights1a signs1a lengths1a sums1a nextSums1a bestFrom1a bestPath1a weights1 freshWeights1 signs1 lengths1 sums1 nextSums1 bestFrom1_15 bestPath1) H → va_D A (w1 cI cJ h1 weights1a freshWeights1a signs1a lengths1a sums1a nextSums1a bestFrom1a bestPath1a weights1 freshWeights1 signs1 lengths1 sums1 nextSums1 bestFrom1_15 bestPath1) → va_S A s.heap H locs → lv_has ls 7 [(3, .int y3_6), (2, .int x2_3), (0, .ref h1), (1, .int i1)] → W p l e (rmOf 3 68) s m args below meth c H locs 0 0 Q (F0 m 86 ls [])) → W p l e (rmOf 3 68) s m args below meth c H locs 0 0 Q (F0 m 24 ls []) := by
            intro n
            induction n with
            | zero => intro y4_12 bestFrom1_13 z4_14 bestFrom1_15 h; rw [f_X1_findBestPath_L24.eq_1] at h; cases h
            | succ n ih =>
              intro y4_12 bestFrom1_13 z4_14 bestFrom1_15 h H locs ls hP hD hS hl K
              rw [f_X1_findBestPath_L24.eq_2] at h
              refine lv_iload hx hb dX1_findBestPath_24 (lv_at hl 0 rfl) ?_
              refine lv_iconst (v := 4) hx hb dX1_findBestPath_26 (by decide) ?_
              refine lv_icmp_ge (tgt := 86) hx hb dX1_findBestPath_27 (by decide) (fun c_16 => ?_) (fun c_16 => ?_)
              · have h := it_p c_16 h
                cases h
                exact K _ _ _ hP hD hS (lv_sub hl [1, 2, 3, 4] rfl)
              · have h := it_n c_16 h
                refine lv_iload_n hx hb dX1_findBestPath_30 rfl (lv_at hl 1 rfl) ?_
                refine lv_iload_n hx hb dX1_findBestPath_31 rfl (lv_at hl 2 rfl) ?_
                refine lv_iconst (v := 1) hx hb dX1_findBestPath_32 (by decide) ?_
                refine lv_isub hx hb dX1_findBestPath_33 ?_
                refine lv_icmp_ne (tgt := 41) hx hb dX1_findBestPath_34 (by decide) (fun c_17 => ?_) (fun c_17 => ?_)
                · have h := it_n c_17 h
                  refine lv_aload_n hx hb dX1_findBestPath_41 rfl (lv_at hl 3 rfl) ?_
                  refine lv_iload_n hx hb dX1_findBestPath_42 rfl (lv_at hl 1 rfl) ?_
                  refine lv_iload hx hb dX1_findBestPath_43 (lv_at hl 0 rfl) ?_
                  refine lv_aload_n hx hb dX1_findBestPath_45 rfl (lv_at hl 3 rfl) ?_
                  refine lv_iload_n hx hb dX1_findBestPath_46 rfl (lv_at hl 1 rfl) ?_
                  refine lv_iload hx hb dX1_findBestPath_47 (lv_at hl 0 rfl) ?_
                  obtain ⟨r_18, hc_19, h⟩ := bd_s h
                  refine callTi (As := [.int y3_6, .int y4_12]) (rest := [.int y4_12, .int y3_6, .ref h1]) ⟨hx, hb, hml, hown, hts⟩ (c_X1_bestOnward l D cI cJ h1 weights1a freshWeights1a signs1a lengths1a sums1a nextSums1a bestFrom1a bestPath1a weights1 freshWeights1 signs1 lengths1 sums1 nextSums1 bestFrom1_13 bestPath1 y3_6 y4_12 r_18 hc_19) (cwV 2 hts gX1_findBestPath_X1_bestOnward rfl rfl rfl (by decide +kernel) ⟨Nat.le_of_ble_eq_true rfl, Nat.le_of_ble_eq_true rfl⟩) hK hP hD hS hA 0 0 rfl rfl rfl rfl hl.1 rfl (Nat.le_of_ble_eq_true rfl) dX1_findBestPath_49 ⟨Nat.zero_le _, Nat.zero_le _⟩ (fun H locs hP hD hS => ?_)
                  obtain ⟨rj_20, hc_21, h⟩ := bd_s h
                  refine callTl (As := [.int y3_6, .int y4_12, .int r_18]) (rest := []) ⟨hx, hb, hml, hown, hts⟩ (c_X1_weightOnward l D cI cJ h1 weights1a freshWeights1a signs1a lengths1a sums1a nextSums1a bestFrom1a bestPath1a weights1 freshWeights1 signs1 lengths1 sums1 nextSums1 bestFrom1_13 bestPath1 y3_6 y4_12 r_18 rj_20 hc_21) (cwV 3 hts gX1_findBestPath_X1_weightOnward rfl rfl rfl (by decide +kernel) ⟨Nat.le_of_ble_eq_true rfl, Nat.le_of_ble_eq_true rfl⟩) hK hP hD hS hA 0 0 rfl rfl rfl rfl hl.1 rfl (Nat.le_of_ble_eq_true rfl) dX1_findBestPath_52 ⟨Nat.zero_le _, Nat.zero_le _⟩ (fun H locs hP hD hS => ?_)
                  refine lv_topl (fun j5_22 ej5_22 => ?_)
                  have h := nm_s h j5_22 ej5_22
                  refine lv_lstore (lv' := [(5, .long j5_22), (4, .int y4_12), (3, .int y3_6), (2, .int x2_3), (0, .ref h1), (1, .int i1)]) hx hb dX1_findBestPath_55 hl (by decide) rfl (fun ls hl => ?_)
                  refine lv_aload_n hx hb dX1_findBestPath_57 rfl (lv_at hl 4 rfl) ?_
                  refine va_get (D := D) (ci := 0) (v := .ref bestFrom1a) (C := RX1) (T := TX1) (N := 8) hx hb hts hinX1 hown hK.1 hP 0 rfl rfl 6 (by decide) hw3 (fun _ h9 => h9) rfl dX1_findBestPath_58 ?_
                  refine lv_iload_n hx hb dX1_findBestPath_61 rfl (lv_at hl 2 rfl) ?_
                  refine lv_iconst (v := 4) hx hb dX1_findBestPath_62 (by decide) ?_
                  refine lv_imul hx hb dX1_findBestPath_63 ?_
                  refine lv_iload hx hb dX1_findBestPath_64 (lv_at hl 1 rfl) ?_
                  refine lv_iadd hx hb dX1_findBestPath_66 ?_
                  refine lv_aload_n hx hb dX1_findBestPath_67 rfl (lv_at hl 4 rfl) ?_
                  refine lv_iload_n hx hb dX1_findBestPath_68 rfl (lv_at hl 5 rfl) ?_
                  refine lv_iload_n hx hb dX1_findBestPath_69 rfl (lv_at hl 2 rfl) ?_
                  refine lv_iload hx hb dX1_findBestPath_70 (lv_at hl 1 rfl) ?_
                  obtain ⟨r_23, hc_24, h⟩ := bd_s h
                  refine callTi (As := [.int i1, .int y3_6, .int y4_12]) (rest := [.int ((y3_6 * 4) + y4_12), .ref bestFrom1a]) ⟨hx, hb, hml, hown, hts⟩ (c_X1_shown l D cI cJ h1 weights1a freshWeights1a signs1a lengths1a sums1a nextSums1a bestFrom1a bestPath1a weights1 freshWeights1 signs1 lengths1 sums1 nextSums1 bestFrom1_13 bestPath1 i1 y3_6 y4_12 r_23 hc_24) (cwV 3 hts gX1_findBestPath_X1_shown rfl rfl rfl (by decide +kernel) ⟨Nat.le_of_ble_eq_true rfl, Nat.le_of_ble_eq_true rfl⟩) hK hP hD hS hA 0 0 rfl rfl rfl rfl hl.1 rfl (Nat.le_of_ble_eq_true rfl) dX1_findBestPath_72 ⟨Nat.zero_le _, Nat.zero_le _⟩ (fun H locs hP hD hS => ?_)
                  refine lv_i2l (v := (Int32.toInt64 r_23)) hx hb dX1_findBestPath_75 rfl ?_
                  refine lv_lload hx hb dX1_findBestPath_76 (lv_at hl 0 rfl) ?_
                  refine lv_lmul hx hb dX1_findBestPath_78 ?_
                  obtain ⟨hi_25, h⟩ := sL_s h
                  refine va_last hx hb hK.1 hP hD hS 7 1 rfl rfl hi_25 dX1_findBestPath_79 (fun H locs hP hD hS => ?_)
                  obtain ⟨bestFrom1_26, ebestFrom1_26⟩ : ∃ z, z = vp_updL bestFrom1_13 (Int32.toNatClampNeg ((y3_6 * 4) + y4_12)) ((Int32.toInt64 r_23) * j5_22) := ⟨_, rfl⟩
                  have h := h bestFrom1_26 ebestFrom1_26
                  rw [← ebestFrom1_26] at hP hD
                  have hP : va_P D vwK (w1 cI cJ h1 weights1a freshWeights1a signs1a lengths1a sums1a nextSums1a bestFrom1a bestPath1a weights1 freshWeights1 signs1 lengths1 sums1 nextSums1 bestFrom1_26 bestPath1) H := hP
                  have hD : va_D A (w1 cI cJ h1 weights1a freshWeights1a signs1a lengths1a sums1a nextSums1a bestFrom1a bestPath1a weights1 freshWeights1 signs1 lengths1 sums1 nextSums1 bestFrom1_26 bestPath1) := hD
                  obtain ⟨x4_27, ex4_27⟩ : ∃ z : Int32, z = y4_12 + 1 := ⟨_, rfl⟩
                  have h := nm_s h x4_27 ex4_27
                  refine lv_iinc (v := x4_27) (lv' := [(4, .int x4_27), (5, .long j5_22), (3, .int y3_6), (2, .int x2_3), (0, .ref h1), (1, .int i1)]) hx hb dX1_findBestPath_80 hl (k := 1) rfl (by rw [ex4_27]; rfl) (by decide) rfl (fun ls hl => ?_)
                  refine lv_goto (tgt := 24) hx hb dX1_findBestPath_83 (by decide) ?_
                  exact ih _ _ _ _ h _ _ _ hP hD hS (lv_sub hl [0, 2, 3, 4, 5] rfl) K
                · have h := it_p c_17 h
                  refine lv_lconst (v := 1) hx hb dX1_findBestPath_37 (by decide) ?_
                  refine lv_goto (tgt := 55) hx hb dX1_findBestPath_38 (by decide) ?_
                  refine lv_topl (fun j5_28 ej5_28 => ?_)
                  have h := nm_s h j5_28 ej5_28
                  refine lv_lstore (lv' := [(5, .long j5_28), (4, .int y4_12), (3, .int y3_6), (2, .int x2_3), (0, .ref h1), (1, .int i1)]) hx hb dX1_findBestPath_55 hl (by decide) rfl (fun ls hl => ?_)
                  refine lv_aload_n hx hb dX1_findBestPath_57 rfl (lv_at hl 4 rfl) ?_
                  refine va_get (D := D) (ci := 0) (v := .ref bestFrom1a) (C := RX1) (T := TX1) (N := 8) hx hb hts hinX1 hown hK.1 hP 0 rfl rfl 6 (by decide) hw3 (fun _ h9 => h9) rfl dX1_findBestPath_58 ?_
                  refine lv_iload_n hx hb dX1_findBestPath_61 rfl (lv_at hl 2 rfl) ?_
                  refine lv_iconst (v := 4) hx hb dX1_findBestPath_62 (by decide) ?_
                  refine lv_imul hx hb dX1_findBestPath_63 ?_
                  refine lv_iload hx hb dX1_findBestPath_64 (lv_at hl 1 rfl) ?_
                  refine lv_iadd hx hb dX1_findBestPath_66 ?_
                  refine lv_aload_n hx hb dX1_findBestPath_67 rfl (lv_at hl 4 rfl) ?_
                  refine lv_iload_n hx hb dX1_findBestPath_68 rfl (lv_at hl 5 rfl) ?_
                  refine lv_iload_n hx hb dX1_findBestPath_69 rfl (lv_at hl 2 rfl) ?_
                  refine lv_iload hx hb dX1_findBestPath_70 (lv_at hl 1 rfl) ?_
                  obtain ⟨r_29, hc_30, h⟩ := bd_s h
                  refine callTi (As := [.int i1, .int y3_6, .int y4_12]) (rest := [.int ((y3_6 * 4) + y4_12), .ref bestFrom1a]) ⟨hx, hb, hml, hown, hts⟩ (c_X1_shown l D cI cJ h1 weights1a freshWeights1a signs1a lengths1a sums1a nextSums1a bestFrom1a bestPath1a weights1 freshWeights1 signs1 lengths1 sums1 nextSums1 bestFrom1_13 bestPath1 i1 y3_6 y4_12 r_29 hc_30) (cwV 3 hts gX1_findBestPath_X1_shown rfl rfl rfl (by decide +kernel) ⟨Nat.le_of_ble_eq_true rfl, Nat.le_of_ble_eq_true rfl⟩) hK hP hD hS hA 0 0 rfl rfl rfl rfl hl.1 rfl (Nat.le_of_ble_eq_true rfl) dX1_findBestPath_72 ⟨Nat.zero_le _, Nat.zero_le _⟩ (fun H locs hP hD hS => ?_)
                  refine lv_i2l (v := (Int32.toInt64 r_29)) hx hb dX1_findBestPath_75 rfl ?_
                  refine lv_lload hx hb dX1_findBestPath_76 (lv_at hl 0 rfl) ?_
                  refine lv_lmul hx hb dX1_findBestPath_78 ?_
                  obtain ⟨hi_31, h⟩ := sL_s h
                  refine va_last hx hb hK.1 hP hD hS 7 1 rfl rfl hi_31 dX1_findBestPath_79 (fun H locs hP hD hS => ?_)
                  obtain ⟨bestFrom1_32, ebestFrom1_32⟩ : ∃ z, z = vp_updL bestFrom1_13 (Int32.toNatClampNeg ((y3_6 * 4) + y4_12)) ((Int32.toInt64 r_29) * j5_28) := ⟨_, rfl⟩
                  have h := h bestFrom1_32 ebestFrom1_32
                  rw [← ebestFrom1_32] at hP hD
                  have hP : va_P D vwK (w1 cI cJ h1 weights1a freshWeights1a signs1a lengths1a sums1a nextSums1a bestFrom1a bestPath1a weights1 freshWeights1 signs1 lengths1 sums1 nextSums1 bestFrom1_32 bestPath1) H := hP
                  have hD : va_D A (w1 cI cJ h1 weights1a freshWeights1a signs1a lengths1a sums1a nextSums1a bestFrom1a bestPath1a weights1 freshWeights1 signs1 lengths1 sums1 nextSums1 bestFrom1_32 bestPath1) := hD
                  obtain ⟨x4_33, ex4_33⟩ : ∃ z : Int32, z = y4_12 + 1 := ⟨_, rfl⟩
                  have h := nm_s h x4_33 ex4_33
                  refine lv_iinc (v := x4_33) (lv' := [(4, .int x4_33), (5, .long j5_28), (3, .int y3_6), (2, .int x2_3), (0, .ref h1), (1, .int i1)]) hx hb dX1_findBestPath_80 hl (k := 1) rfl (by rw [ex4_33]; rfl) (by decide) rfl (fun ls hl => ?_)
                  refine lv_goto (tgt := 24) hx hb dX1_findBestPath_83 (by decide) ?_
                  exact ih _ _ _ _ h _ _ _ hP hD hS (lv_sub hl [0, 2, 3, 4, 5] rfl) K
          obtain ⟨⟨z4_34, bestFrom1_35⟩, hl_36, h⟩ := bd_s h
          refine L24 FU x4_11 bestFrom1_7 _ _ hl_36 _ _ _ hP hD hS (lv_sub hl [0, 1, 2, 3, 4] rfl) (fun H locs ls hP hD hS hl => ?_)
          obtain ⟨x3_37, ex3_37⟩ : ∃ z : Int32, z = y3_6 + (-1) := ⟨_, rfl⟩
          have h := nm_s h x3_37 ex3_37
          refine lv_iinc (v := x3_37) (lv' := [(3, .int x3_37), (2, .int x2_3), (0, .ref h1), (1, .int i1)]) hx hb dX1_findBestPath_86 hl (k := 0) rfl (by rw [ex3_37]; rfl) (by decide) rfl (fun ls hl => ?_)
          refine lv_goto (tgt := 17) hx hb dX1_findBestPath_89 (by decide) ?_
          exact ih _ _ _ _ h _ _ _ hP hD hS (lv_sub hl [0, 1, 2, 3] rfl) K
    obtain ⟨⟨z3_38, bestFrom1_39⟩, hl_40, h⟩ := bd_s h
    refine L17 FU x3_5 bestFrom1 _ _ hl_40 _ _ _ hP hD hS (lv_sub hl [0, 1, 2, 3] rfl) (fun H locs ls hP hD hS hl => ?_)
    refine lv_aload_n hx hb dX1_findBestPath_92 rfl (lv_at hl 1 rfl) ?_
    obtain ⟨r_41, hc_42, h⟩ := bd_s h
    refine callTi (As := []) (rest := []) ⟨hx, hb, hml, hown, hts⟩ (c_X1_bestStart l D cI cJ h1 weights1a freshWeights1a signs1a lengths1a sums1a nextSums1a bestFrom1a bestPath1a weights1 freshWeights1 signs1 lengths1 sums1 nextSums1 bestFrom1_39 bestPath1 r_41 hc_42) (cwV 0 hts gX1_findBestPath_X1_bestStart rfl rfl rfl (by decide +kernel) ⟨Nat.le_of_ble_eq_true rfl, Nat.le_of_ble_eq_true rfl⟩) hK hP hD hS hA 0 0 rfl rfl rfl rfl hl.1 rfl (Nat.le_of_ble_eq_true rfl) dX1_findBestPath_93 ⟨Nat.zero_le _, Nat.zero_le _⟩ (fun H locs hP hD hS => ?_)
    refine lv_topi (fun x3_43 ex3_43 => ?_)
    have h := nm_s h x3_43 ex3_43
    refine lv_istore_n (lv' := [(3, .int x3_43), (2, .int x2_3), (0, .ref h1)]) hx hb dX1_findBestPath_96 rfl hl (by decide) rfl (fun ls hl => ?_)
    refine lv_aload_n hx hb dX1_findBestPath_97 rfl (lv_at hl 2 rfl) ?_
    refine va_get (D := D) (ci := 0) (v := .ref bestPath1a) (C := RX1) (T := TX1) (N := 8) hx hb hts hinX1 hown hK.1 hP 0 rfl rfl 7 (by decide) hw4 (fun _ h9 => h9) rfl dX1_findBestPath_98 ?_
    refine lv_iconst (v := 0) hx hb dX1_findBestPath_101 (by decide) ?_
    refine lv_iload_n hx hb dX1_findBestPath_102 rfl (lv_at hl 0 rfl) ?_
    obtain ⟨hi_44, h⟩ := sI_s h
    refine va_iast hx hb hK.1 hP hD hS 8 0 rfl rfl hi_44 dX1_findBestPath_103 (fun H locs hP hD hS => ?_)
    obtain ⟨bestPath1_45, ebestPath1_45⟩ : ∃ z, z = upd bestPath1 (Int32.toNatClampNeg 0) x3_43 := ⟨_, rfl⟩
    have h := h bestPath1_45 ebestPath1_45
    rw [← ebestPath1_45] at hP hD
    have hP : va_P D vwK (w1 cI cJ h1 weights1a freshWeights1a signs1a lengths1a sums1a nextSums1a bestFrom1a bestPath1a weights1 freshWeights1 signs1 lengths1 sums1 nextSums1 bestFrom1_39 bestPath1_45) H := hP
    have hD : va_D A (w1 cI cJ h1 weights1a freshWeights1a signs1a lengths1a sums1a nextSums1a bestFrom1a bestPath1a weights1 freshWeights1 signs1 lengths1 sums1 nextSums1 bestFrom1_39 bestPath1_45) := hD
    refine lv_iconst (v := 1) hx hb dX1_findBestPath_104 (by decide) ?_
    refine lv_topi (fun x4_46 ex4_46 => ?_)
    have h := nm_s h x4_46 ex4_46
    refine lv_istore (lv' := [(4, .int x4_46), (3, .int x3_43), (2, .int x2_3), (0, .ref h1)]) hx hb dX1_findBestPath_105 hl (by decide) rfl (fun ls hl => ?_)
    have L107 : ∀ (n : Nat) (y4_47 : Int32) (bestPath1_48 : Nat → Int32) (z4_49 : Int32) (bestPath1_50 : Nat → Int32), f_X1_findBestPath_L107 x2_3 weights1 bestFrom1_39 n y4_47 bestPath1_48 = some (z4_49, bestPath1_50) → ∀ (H : Heap) (locs : List Loc) (ls : Array Slot), va_P D vwK (w1 cI cJ h1 weights1a freshWeights1a signs1a lengths1a sums1a nextSums1a bestFrom1a bestPath1a weights1 freshWeights1 signs1 lengths1 sums1 nextSums1 bestFrom1_39 bestPath1_48) H → va_D A (w1 cI cJ h1 weights1a freshWeights1a signs1a lengths1a sums1a nextSums1a bestFrom1a bestPath1a weights1 freshWeights1 signs1 lengths1 sums1 nextSums1 bestFrom1_39 bestPath1_48) → va_S A s.heap H locs → lv_has ls 7 [(4, .int y4_47), (3, .int x3_43), (2, .int x2_3), (0, .ref h1)] → (∀ (H : Heap) (locs : List Loc) (ls : Array Slot), va_P D vwK (w1 cI cJ h1 weights1a freshWeights1a signs1a lengths1a sums1a nextSums1a bestFrom1a bestPath1a weights1 freshWeights1 signs1 lengths1 sums1 nextSums1 bestFrom1_39 bestPath1_50) H → va_D A (w1 cI cJ h1 weights1a freshWeights1a signs1a lengths1a sums1a nextSums1a bestFrom1a bestPath1a weights1 freshWeights1 signs1 lengths1 sums1 nextSums1 bestFrom1_39 bestPath1_50) → va_S A s.heap H locs → lv_has ls 7 [(3, .int x3_43), (0, .ref h1)] → W p l e (rmOf 3 68) s m args below meth c H locs 0 0 Q (F0 m 143 ls [])) → W p l e (rmOf 3 68) s m args below meth c H locs 0 0 Q (F0 m 107 ls []) := by
      intro n
      induction n with
      | zero => intro y4_47 bestPath1_48 z4_49 bestPath1_50 h; rw [f_X1_findBestPath_L107.eq_1] at h; cases h
      | succ n ih =>
        intro y4_47 bestPath1_48 z4_49 bestPath1_50 h H locs ls hP hD hS hl K
        rw [f_X1_findBestPath_L107.eq_2] at h
        refine lv_iload hx hb dX1_findBestPath_107 (lv_at hl 0 rfl) ?_
        refine lv_iload_n hx hb dX1_findBestPath_109 rfl (lv_at hl 2 rfl) ?_
        refine lv_icmp_ge (tgt := 143) hx hb dX1_findBestPath_110 (by decide) (fun c_51 => ?_) (fun c_51 => ?_)
        · have h := it_p c_51 h
          cases h
          exact K _ _ _ hP hD hS (lv_sub hl [1, 3] rfl)
        · have h := it_n c_51 h
          refine lv_aload_n hx hb dX1_findBestPath_113 rfl (lv_at hl 3 rfl) ?_
          refine va_get (D := D) (ci := 0) (v := .ref bestPath1a) (C := RX1) (T := TX1) (N := 8) hx hb hts hinX1 hown hK.1 hP 0 rfl rfl 7 (by decide) hw4 (fun _ h9 => h9) rfl dX1_findBestPath_114 ?_
          refine lv_iload hx hb dX1_findBestPath_117 (lv_at hl 0 rfl) ?_
          refine lv_aload_n hx hb dX1_findBestPath_119 rfl (lv_at hl 3 rfl) ?_
          refine lv_iload hx hb dX1_findBestPath_120 (lv_at hl 0 rfl) ?_
          refine lv_iconst (v := 1) hx hb dX1_findBestPath_122 (by decide) ?_
          refine lv_isub hx hb dX1_findBestPath_123 ?_
          refine lv_aload_n hx hb dX1_findBestPath_124 rfl (lv_at hl 3 rfl) ?_
          refine va_get (D := D) (ci := 0) (v := .ref bestPath1a) (C := RX1) (T := TX1) (N := 8) hx hb hts hinX1 hown hK.1 hP 0 rfl rfl 7 (by decide) hw4 (fun _ h9 => h9) rfl dX1_findBestPath_125 ?_
          refine lv_iload hx hb dX1_findBestPath_128 (lv_at hl 0 rfl) ?_
          refine lv_iconst (v := 1) hx hb dX1_findBestPath_130 (by decide) ?_
          refine lv_isub hx hb dX1_findBestPath_131 ?_
          obtain ⟨hi_52, h⟩ := gA_s h
          refine va_iald hx hb hK.1 hP 8 0 rfl rfl hi_52 dX1_findBestPath_132 ?_
          refine lv_topi (fun v_53 ev_53 => ?_)
          have h := h v_53 ev_53
          obtain ⟨r_54, hc_55, h⟩ := bd_s h
          refine callTi (As := [.int (y4_47 - 1), .int v_53]) (rest := [.int y4_47, .ref bestPath1a]) ⟨hx, hb, hml, hown, hts⟩ (c_X1_bestOnward l D cI cJ h1 weights1a freshWeights1a signs1a lengths1a sums1a nextSums1a bestFrom1a bestPath1a weights1 freshWeights1 signs1 lengths1 sums1 nextSums1 bestFrom1_39 bestPath1_48 (y4_47 - 1) v_53 r_54 hc_55) (cwV 2 hts gX1_findBestPath_X1_bestOnward rfl rfl rfl (by decide +kernel) ⟨Nat.le_of_ble_eq_true rfl, Nat.le_of_ble_eq_true rfl⟩) hK hP hD hS hA 0 0 rfl rfl rfl rfl hl.1 rfl (Nat.le_of_ble_eq_true rfl) dX1_findBestPath_133 ⟨Nat.zero_le _, Nat.zero_le _⟩ (fun H locs hP hD hS => ?_)
          obtain ⟨hi_56, h⟩ := sI_s h
          refine va_iast hx hb hK.1 hP hD hS 8 0 rfl rfl hi_56 dX1_findBestPath_136 (fun H locs hP hD hS => ?_)
          obtain ⟨bestPath1_57, ebestPath1_57⟩ : ∃ z, z = upd bestPath1_48 (Int32.toNatClampNeg y4_47) r_54 := ⟨_, rfl⟩
          have h := h bestPath1_57 ebestPath1_57
          rw [← ebestPath1_57] at hP hD
          have hP : va_P D vwK (w1 cI cJ h1 weights1a freshWeights1a signs1a lengths1a sums1a nextSums1a bestFrom1a bestPath1a weights1 freshWeights1 signs1 lengths1 sums1 nextSums1 bestFrom1_39 bestPath1_57) H := hP
          have hD : va_D A (w1 cI cJ h1 weights1a freshWeights1a signs1a lengths1a sums1a nextSums1a bestFrom1a bestPath1a weights1 freshWeights1 signs1 lengths1 sums1 nextSums1 bestFrom1_39 bestPath1_57) := hD
          obtain ⟨x4_58, ex4_58⟩ : ∃ z : Int32, z = y4_47 + 1 := ⟨_, rfl⟩
          have h := nm_s h x4_58 ex4_58
          refine lv_iinc (v := x4_58) (lv' := [(4, .int x4_58), (3, .int x3_43), (2, .int x2_3), (0, .ref h1)]) hx hb dX1_findBestPath_137 hl (k := 0) rfl (by rw [ex4_58]; rfl) (by decide) rfl (fun ls hl => ?_)
          refine lv_goto (tgt := 107) hx hb dX1_findBestPath_140 (by decide) ?_
          exact ih _ _ _ _ h _ _ _ hP hD hS (lv_sub hl [0, 1, 2, 3] rfl) K
    obtain ⟨⟨z4_59, bestPath1_60⟩, hl_61, h⟩ := bd_s h
    refine L107 FU x4_46 bestPath1_45 _ _ hl_61 _ _ _ hP hD hS (lv_sub hl [0, 1, 2, 3] rfl) (fun H locs ls hP hD hS hl => ?_)
    refine lv_aload_n hx hb dX1_findBestPath_143 rfl (lv_at hl 1 rfl) ?_
    refine va_get (D := D) (ci := 0) (v := .ref weights1a) (C := RX1) (T := TX1) (N := 8) hx hb hts hinX1 hown hK.1 hP 0 rfl rfl 0 (by decide) hw5 (fun _ h9 => h9) rfl dX1_findBestPath_144 ?_
    refine lv_iload_n hx hb dX1_findBestPath_147 rfl (lv_at hl 0 rfl) ?_
    obtain ⟨hi_62, h⟩ := gA_s h
    refine va_iald hx hb hK.1 hP 1 0 rfl rfl hi_62 dX1_findBestPath_148 ?_
    refine lv_topi (fun v_63 ev_63 => ?_)
    have h := h v_63 ev_63
    refine lv_i2l (v := (Int32.toInt64 v_63)) hx hb dX1_findBestPath_149 rfl ?_
    refine lv_aload_n hx hb dX1_findBestPath_150 rfl (lv_at hl 1 rfl) ?_
    refine va_get (D := D) (ci := 0) (v := .ref bestFrom1a) (C := RX1) (T := TX1) (N := 8) hx hb hts hinX1 hown hK.1 hP 0 rfl rfl 6 (by decide) hw3 (fun _ h9 => h9) rfl dX1_findBestPath_151 ?_
    refine lv_iload_n hx hb dX1_findBestPath_154 rfl (lv_at hl 0 rfl) ?_
    obtain ⟨hi_64, h⟩ := gA_s h
    refine va_lald hx hb hK.1 hP 7 1 rfl rfl hi_64 dX1_findBestPath_155 ?_
    refine lv_topl (fun v_65 ev_65 => ?_)
    have h := h v_65 ev_65
    refine lv_lmul hx hb dX1_findBestPath_156 ?_
    refine lv_lconst (v := 0) hx hb dX1_findBestPath_157 (by decide) ?_
    refine W.lcmp hx hb dX1_findBestPath_158 ?_
    refine lv_if_le (tgt := 166) hx hb dX1_findBestPath_159 (by decide) (fun c_66 => ?_) (fun c_66 => ?_)
    · have h := it_p c_66 h
      refine lv_iconst (v := 0) hx hb dX1_findBestPath_166 (by decide) ?_
      cases h
      exact hret _ _ _ _ (Or.inl rfl) hP hD hS dX1_findBestPath_167
    · have h := it_n c_66 h
      refine lv_iconst (v := 1) hx hb dX1_findBestPath_162 (by decide) ?_
      refine lv_goto (tgt := 167) hx hb dX1_findBestPath_163 (by decide) ?_
      cases h
      exact hret _ _ _ _ (Or.inr rfl) hP hD hS dX1_findBestPath_167
  · have h := it_p c_4 h
    refine lv_iconst (v := 0) hx hb dX1_findBestPath_11 (by decide) ?_
    cases h
    exact hret _ _ _ _ (Or.inl rfl) hP hD hS dX1_findBestPath_12
def f_X1_stateOnBestPath (i1 : Int32) (bestPath1 : Nat → Int32) : Option (Int32) :=
  gA 5 bestPath1 i1 fun v_2 =>
  some v_2
set_option maxHeartbeats 4000000 in
set_option maxRecDepth 100000 in
theorem c_X1_stateOnBestPath (l : Launch) (D : va_G) (cI cJ : ClassId) (h1 weights1a freshWeights1a signs1a lengths1a sums1a nextSums1a bestFrom1a bestPath1a : Nat) (weights1 : Nat → Int32) (freshWeights1 : Nat → Int32) (signs1 : Nat → Int32) (lengths1 : Nat → Int32) (sums1 : Nat → Int64) (nextSums1 : Nat → Int64) (bestFrom1 : Nat → Int64) (bestPath1 : Nat → Int32) (i1 : Int32) (ret9 : Int32) (h : f_X1_stateOnBestPath i1 bestPath1 = some ret9) : CI l D cI cJ yX1_stateOnBestPath wsX1_stateOnBestPath 0 0 [.ref h1, .int i1] (w1 cI cJ h1 weights1a freshWeights1a signs1a lengths1a sums1a nextSums1a bestFrom1a bestPath1a weights1 freshWeights1 signs1 lengths1 sums1 nextSums1 bestFrom1 bestPath1) (w1 cI cJ h1 weights1a freshWeights1a signs1a lengths1a sums1a nextSums1a bestFrom1a bestPath1a weights1 freshWeights1 signs1 lengths1 sums1 nextSums1 bestFrom1 bestPath1) ret9 := by
  refine entI (cc := cX1_stateOnBestPath) (maxL := 2) (by decide) rfl (Nat.le_of_ble_eq_true rfl) ?_
  intro p e s m args below meth c ls A Q X hret
  obtain ⟨hx, hb, hml, hts, hown, hK, hA, hP, hD, hS, hl, hnm⟩ := X
  have hown : s.vm.findClass RX1 = some m.cls := hown
  have hl : lv_has ls 2 [(0, .ref h1), (1, .int i1)] := hl
  have hw1 : (Cond.fieldLink RX1 34 "CountLearners$HiddenStates" "bestPath" "[I").before args s = true := hts _ (by decide +kernel)
  have hinX1 : ∀ w ∈ wsX10, w ∈ wsX1_stateOnBestPath := by decide +kernel
  unfold f_X1_stateOnBestPath at h
  refine lv_aload_n hx hb dX1_stateOnBestPath_0 rfl (lv_at hl 0 rfl) ?_
  refine va_get (D := D) (ci := 0) (v := .ref bestPath1a) (C := RX1) (T := TX1) (N := 8) hx hb hts hinX1 hown hK.1 hP 0 rfl rfl 7 (by decide) hw1 (fun _ h9 => h9) rfl dX1_stateOnBestPath_1 ?_
  refine lv_iload_n hx hb dX1_stateOnBestPath_4 rfl (lv_at hl 1 rfl) ?_
  obtain ⟨hi_1, h⟩ := gA_s h
  refine va_iald hx hb hK.1 hP 8 0 rfl rfl hi_1 dX1_stateOnBestPath_5 ?_
  refine lv_topi (fun v_2 ev_2 => ?_)
  have h := h v_2 ev_2
  cases h
  exact hret _ _ _ _ hP hD hS dX1_stateOnBestPath_6
def f_X1_sumInto_L5 (i1 : Int32) (weights1 : Nat → Int32) (sums1 : Nat → Int64) : Nat → Int32 → Int64 → Option (Int32 × Int64)
  | 0, _, _ => none
  | n + 1, y4_3, k2_4 =>
  if 4 ≤ y4_3 then
    some (y4_3, k2_4)
  else
    gA 4 sums1 y4_3 fun v_9 =>
    Option.bind (f_X1_moveAt y4_3 i1) fun r_10 =>
    gA 36 weights1 r_10 fun v_13 =>
    nm (α := Int64) ((k2_4 + (v_9 * (Int32.toInt64 v_13)))) fun j2_14 =>
    nm (α := Int32) (y4_3 + 1) fun x4_15 =>
    f_X1_sumInto_L5 i1 weights1 sums1 n x4_15 j2_14
def f_X1_sumInto (i1 : Int32) (weights1 : Nat → Int32) (sums1 : Nat → Int64) : Option (Int64) :=
  nm (α := Int64) (0) fun j2_1 =>
  nm (α := Int32) (0) fun x4_2 =>
  Option.bind (f_X1_sumInto_L5 i1 weights1 sums1 FU x4_2 j2_1) fun (z4_16, z2_17) =>
  some z2_17
set_option maxHeartbeats 4000000 in
set_option maxRecDepth 100000 in
theorem c_X1_sumInto (l : Launch) (D : va_G) (cI cJ : ClassId) (h1 weights1a freshWeights1a signs1a lengths1a sums1a nextSums1a bestFrom1a bestPath1a : Nat) (weights1 : Nat → Int32) (freshWeights1 : Nat → Int32) (signs1 : Nat → Int32) (lengths1 : Nat → Int32) (sums1 : Nat → Int64) (nextSums1 : Nat → Int64) (bestFrom1 : Nat → Int64) (bestPath1 : Nat → Int32) (i1 : Int32) (ret9 : Int64) (h : f_X1_sumInto i1 weights1 sums1 = some ret9) : CL l D cI cJ yX1_sumInto wsX1_sumInto 1 21 [.ref h1, .int i1] (w1 cI cJ h1 weights1a freshWeights1a signs1a lengths1a sums1a nextSums1a bestFrom1a bestPath1a weights1 freshWeights1 signs1 lengths1 sums1 nextSums1 bestFrom1 bestPath1) (w1 cI cJ h1 weights1a freshWeights1a signs1a lengths1a sums1a nextSums1a bestFrom1a bestPath1a weights1 freshWeights1 signs1 lengths1 sums1 nextSums1 bestFrom1 bestPath1) ret9 := by
  refine entL (cc := cX1_sumInto) (maxL := 5) (by decide) rfl (Nat.le_of_ble_eq_true rfl) ?_
  intro p e s m args below meth c ls A Q X hret
  obtain ⟨hx, hb, hml, hts, hown, hK, hA, hP, hD, hS, hl, hnm⟩ := X
  have hown : s.vm.findClass RX1 = some m.cls := hown
  have hl : lv_has ls 5 [(0, .ref h1), (1, .int i1)] := hl
  have hw1 : (Cond.fieldLink RX1 24 "CountLearners$HiddenStates" "sums" "[J").before args s = true := hts _ (by decide +kernel)
  have hinX1 : ∀ w ∈ wsX10, w ∈ wsX1_sumInto := by decide +kernel
  have hw3 : (Cond.fieldLink RX1 11 "CountLearners$HiddenStates" "weights" "[I").before args s = true := hts _ (by decide +kernel)
  unfold f_X1_sumInto at h
  refine lv_lconst (v := 0) hx hb dX1_sumInto_0 (by decide) ?_
  refine lv_topl (fun j2_1 ej2_1 => ?_)
  have h := nm_s h j2_1 ej2_1
  refine lv_lstore_n (lv' := [(2, .long j2_1), (0, .ref h1), (1, .int i1)]) hx hb dX1_sumInto_1 rfl hl (by decide) rfl (fun ls hl => ?_)
  refine lv_iconst (v := 0) hx hb dX1_sumInto_2 (by decide) ?_
  refine lv_topi (fun x4_2 ex4_2 => ?_)
  have h := nm_s h x4_2 ex4_2
  refine lv_istore (lv' := [(4, .int x4_2), (2, .long j2_1), (0, .ref h1), (1, .int i1)]) hx hb dX1_sumInto_3 hl (by decide) rfl (fun ls hl => ?_)
  have L5 : ∀ (n : Nat) (y4_3 : Int32) (k2_4 : Int64) (z4_5 : Int32) (z2_6 : Int64), f_X1_sumInto_L5 i1 weights1 sums1 n y4_3 k2_4 = some (z4_5, z2_6) → ∀ (H : Heap) (locs : List Loc) (ls : Array Slot), va_P D vwK (w1 cI cJ h1 weights1a freshWeights1a signs1a lengths1a sums1a nextSums1a bestFrom1a bestPath1a weights1 freshWeights1 signs1 lengths1 sums1 nextSums1 bestFrom1 bestPath1) H → va_D A (w1 cI cJ h1 weights1a freshWeights1a signs1a lengths1a sums1a nextSums1a bestFrom1a bestPath1a weights1 freshWeights1 signs1 lengths1 sums1 nextSums1 bestFrom1 bestPath1) → va_S A s.heap H locs → lv_has ls 5 [(4, .int y4_3), (2, .long k2_4), (0, .ref h1), (1, .int i1)] → (∀ (H : Heap) (locs : List Loc) (ls : Array Slot), va_P D vwK (w1 cI cJ h1 weights1a freshWeights1a signs1a lengths1a sums1a nextSums1a bestFrom1a bestPath1a weights1 freshWeights1 signs1 lengths1 sums1 nextSums1 bestFrom1 bestPath1) H → va_D A (w1 cI cJ h1 weights1a freshWeights1a signs1a lengths1a sums1a nextSums1a bestFrom1a bestPath1a weights1 freshWeights1 signs1 lengths1 sums1 nextSums1 bestFrom1 bestPath1) → va_S A s.heap H locs → lv_has ls 5 [(2, .long z2_6)] → W p l e (rmOf 1 21) s m args below meth c H locs 0 0 Q (F0 m 40 ls [])) → W p l e (rmOf 1 21) s m args below meth c H locs 0 0 Q (F0 m 5 ls []) := by
    intro n
    induction n with
    | zero => intro y4_3 k2_4 z4_5 z2_6 h; rw [f_X1_sumInto_L5.eq_1] at h; cases h
    | succ n ih =>
      intro y4_3 k2_4 z4_5 z2_6 h H locs ls hP hD hS hl K
      rw [f_X1_sumInto_L5.eq_2] at h
      refine lv_iload hx hb dX1_sumInto_5 (lv_at hl 0 rfl) ?_
      refine lv_iconst (v := 4) hx hb dX1_sumInto_7 (by decide) ?_
      refine lv_icmp_ge (tgt := 40) hx hb dX1_sumInto_8 (by decide) (fun c_7 => ?_) (fun c_7 => ?_)
      · have h := it_p c_7 h
        cases h
        exact K _ _ _ hP hD hS (lv_sub hl [1] rfl)
      · have h := it_n c_7 h
        refine lv_lload_n hx hb dX1_sumInto_11 rfl (lv_at hl 1 rfl) ?_
        refine lv_aload_n hx hb dX1_sumInto_12 rfl (lv_at hl 2 rfl) ?_
        refine va_get (D := D) (ci := 0) (v := .ref sums1a) (C := RX1) (T := TX1) (N := 8) hx hb hts hinX1 hown hK.1 hP 0 rfl rfl 4 (by decide) hw1 (fun _ h9 => h9) rfl dX1_sumInto_13 ?_
        refine lv_iload hx hb dX1_sumInto_16 (lv_at hl 0 rfl) ?_
        obtain ⟨hi_8, h⟩ := gA_s h
        refine va_lald hx hb hK.1 hP 5 1 rfl rfl hi_8 dX1_sumInto_18 ?_
        refine lv_topl (fun v_9 ev_9 => ?_)
        have h := h v_9 ev_9
        refine lv_aload_n hx hb dX1_sumInto_19 rfl (lv_at hl 2 rfl) ?_
        refine va_get (D := D) (ci := 0) (v := .ref weights1a) (C := RX1) (T := TX1) (N := 8) hx hb hts hinX1 hown hK.1 hP 0 rfl rfl 0 (by decide) hw3 (fun _ h9 => h9) rfl dX1_sumInto_20 ?_
        refine lv_iload hx hb dX1_sumInto_23 (lv_at hl 0 rfl) ?_
        refine lv_iload_n hx hb dX1_sumInto_25 rfl (lv_at hl 3 rfl) ?_
        obtain ⟨r_10, hc_11, h⟩ := bd_s h
        refine callPi (As := [.int y4_3, .int i1]) (rest := [.ref weights1a, .long v_9, .long k2_4]) ⟨hx, hb, hml, hown, hts⟩ (c_X1_moveAt l D cI cJ y4_3 i1 r_10 hc_11) (va_cwS 2 hts gX1_sumInto_X1_moveAt rfl rfl rfl (by decide +kernel) ⟨Nat.le_of_ble_eq_true rfl, Nat.le_of_ble_eq_true rfl⟩) hK hP hD hS hA rfl hl.1 rfl (Nat.le_of_ble_eq_true rfl) dX1_sumInto_26 ⟨Nat.zero_le _, Nat.zero_le _⟩ (fun H locs hP hD hS => ?_)
        obtain ⟨hi_12, h⟩ := gA_s h
        refine va_iald hx hb hK.1 hP 1 0 rfl rfl hi_12 dX1_sumInto_29 ?_
        refine lv_topi (fun v_13 ev_13 => ?_)
        have h := h v_13 ev_13
        refine lv_i2l (v := (Int32.toInt64 v_13)) hx hb dX1_sumInto_30 rfl ?_
        refine lv_lmul hx hb dX1_sumInto_31 ?_
        refine lv_ladd hx hb dX1_sumInto_32 ?_
        refine lv_topl (fun j2_14 ej2_14 => ?_)
        have h := nm_s h j2_14 ej2_14
        refine lv_lstore_n (lv' := [(2, .long j2_14), (4, .int y4_3), (0, .ref h1), (1, .int i1)]) hx hb dX1_sumInto_33 rfl hl (by decide) rfl (fun ls hl => ?_)
        obtain ⟨x4_15, ex4_15⟩ : ∃ z : Int32, z = y4_3 + 1 := ⟨_, rfl⟩
        have h := nm_s h x4_15 ex4_15
        refine lv_iinc (v := x4_15) (lv' := [(4, .int x4_15), (2, .long j2_14), (0, .ref h1), (1, .int i1)]) hx hb dX1_sumInto_34 hl (k := 1) rfl (by rw [ex4_15]; rfl) (by decide) rfl (fun ls hl => ?_)
        refine lv_goto (tgt := 5) hx hb dX1_sumInto_37 (by decide) ?_
        exact ih _ _ _ _ h _ _ _ hP hD hS (lv_sub hl [0, 1, 2, 3] rfl) K
  obtain ⟨⟨z4_16, z2_17⟩, hl_18, h⟩ := bd_s h
  refine L5 FU x4_2 j2_1 _ _ hl_18 _ _ _ hP hD hS (lv_sub hl [0, 1, 2, 3] rfl) (fun H locs ls hP hD hS hl => ?_)
  refine lv_lload_n hx hb dX1_sumInto_40 rfl (lv_at hl 0 rfl) ?_
  cases h
  exact hret _ _ _ _ hP hD hS dX1_sumInto_41
def f_X1_totalThrough_L14 (i1 : Int32) (i2 : Int32) (i3 : Int32) (weights1 : Nat → Int32) (signs1 : Nat → Int32) : Nat → Int32 → (Nat → Int64) → Option (Int32 × (Nat → Int64))
  | 0, _, _ => none
  | n + 1, y4_5, sums1_6 =>
  if 4 ≤ y4_5 then
    some (y4_5, sums1_6)
  else
    if i2 = 0 then
      if y4_5 = i3 then
        gA 36 weights1 y4_5 fun v_20 =>
        Option.bind (f_X1_shown i1 0 y4_5 weights1 signs1) fun r_21 =>
        sL 4 sums1_6 y4_5 ((Int32.toInt64 v_20) * (Int32.toInt64 r_21)) fun sums1_24 =>
        nm (α := Int32) (y4_5 + 1) fun x4_25 =>
        f_X1_totalThrough_L14 i1 i2 i3 weights1 signs1 n x4_25 sums1_24
      else
        sL 4 sums1_6 y4_5 0 fun sums1_27 =>
        nm (α := Int32) (y4_5 + 1) fun x4_28 =>
        f_X1_totalThrough_L14 i1 i2 i3 weights1 signs1 n x4_28 sums1_27
    else
      gA 36 weights1 y4_5 fun v_12 =>
      Option.bind (f_X1_shown i1 0 y4_5 weights1 signs1) fun r_13 =>
      sL 4 sums1_6 y4_5 ((Int32.toInt64 v_12) * (Int32.toInt64 r_13)) fun sums1_16 =>
      nm (α := Int32) (y4_5 + 1) fun x4_17 =>
      f_X1_totalThrough_L14 i1 i2 i3 weights1 signs1 n x4_17 sums1_16
def f_X1_totalThrough_L82 (y4_33 : Int32) (i1 : Int32) (i2 : Int32) (i3 : Int32) (weights1 : Nat → Int32) (signs1 : Nat → Int32) (sums1_34 : Nat → Int64) : Nat → Int32 → (Nat → Int64) → Option (Int32 × (Nat → Int64))
  | 0, _, _ => none
  | n + 1, y5_43, nextSums1_44 =>
  if 4 ≤ y5_43 then
    some (y5_43, nextSums1_44)
  else
    if i2 = y4_33 then
      if y5_43 = i3 then
        Option.bind (f_X1_sumInto y5_43 weights1 sums1_34) fun rj_57 =>
        Option.bind (f_X1_shown i1 y4_33 y5_43 weights1 signs1) fun r_59 =>
        sL 4 nextSums1_44 y5_43 (rj_57 * (Int32.toInt64 r_59)) fun nextSums1_62 =>
        nm (α := Int32) (y5_43 + 1) fun x5_63 =>
        f_X1_totalThrough_L82 y4_33 i1 i2 i3 weights1 signs1 sums1_34 n x5_63 nextSums1_62
      else
        sL 4 nextSums1_44 y5_43 0 fun nextSums1_65 =>
        nm (α := Int32) (y5_43 + 1) fun x5_66 =>
        f_X1_totalThrough_L82 y4_33 i1 i2 i3 weights1 signs1 sums1_34 n x5_66 nextSums1_65
    else
      Option.bind (f_X1_sumInto y5_43 weights1 sums1_34) fun rj_49 =>
      Option.bind (f_X1_shown i1 y4_33 y5_43 weights1 signs1) fun r_51 =>
      sL 4 nextSums1_44 y5_43 (rj_49 * (Int32.toInt64 r_51)) fun nextSums1_54 =>
      nm (α := Int32) (y5_43 + 1) fun x5_55 =>
      f_X1_totalThrough_L82 y4_33 i1 i2 i3 weights1 signs1 sums1_34 n x5_55 nextSums1_54
def f_X1_totalThrough_L137 (nextSums1_68 : Nat → Int64) : Nat → Int32 → (Nat → Int64) → Option (Int32 × (Nat → Int64))
  | 0, _, _ => none
  | n + 1, y5_71, sums1_72 =>
  if 4 ≤ y5_71 then
    some (y5_71, sums1_72)
  else
    gA 4 nextSums1_68 y5_71 fun v_77 =>
    sL 4 sums1_72 y5_71 v_77 fun sums1_79 =>
    nm (α := Int32) (y5_71 + 1) fun x5_80 =>
    f_X1_totalThrough_L137 nextSums1_68 n x5_80 sums1_79
def f_X1_totalThrough_L68 (i1 : Int32) (i2 : Int32) (i3 : Int32) (weights1 : Nat → Int32) (signs1 : Nat → Int32) (lengths1 : Nat → Int32) : Nat → Int32 → (Nat → Int64) → (Nat → Int64) → Option (Int32 × (Nat → Int64) × (Nat → Int64))
  | 0, _, _, _ => none
  | n + 1, y4_33, sums1_34, nextSums1_35 =>
  gA 4 lengths1 i1 fun v_40 =>
  if v_40 ≤ y4_33 then
    some (y4_33, sums1_34, nextSums1_35)
  else
    nm (α := Int32) (0) fun x5_42 =>
    Option.bind (f_X1_totalThrough_L82 y4_33 i1 i2 i3 weights1 signs1 sums1_34 FU x5_42 nextSums1_35) fun (z5_67, nextSums1_68) =>
    nm (α := Int32) (0) fun x5_70 =>
    Option.bind (f_X1_totalThrough_L137 nextSums1_68 FU x5_70 sums1_34) fun (z5_81, sums1_82) =>
    nm (α := Int32) (y4_33 + 1) fun x4_84 =>
    f_X1_totalThrough_L68 i1 i2 i3 weights1 signs1 lengths1 n x4_84 sums1_82 nextSums1_68
def f_X1_totalThrough_L175 (sums1_86 : Nat → Int64) : Nat → Int32 → Int64 → Option (Int32 × Int64)
  | 0, _, _ => none
  | n + 1, y6_91, k4_92 =>
  if 4 ≤ y6_91 then
    some (y6_91, k4_92)
  else
    gA 4 sums1_86 y6_91 fun v_97 =>
    nm (α := Int64) ((k4_92 + v_97)) fun j4_98 =>
    nm (α := Int32) (y6_91 + 1) fun x6_99 =>
    f_X1_totalThrough_L175 sums1_86 n x6_99 j4_98
def f_X1_totalThrough (i1 : Int32) (i2 : Int32) (i3 : Int32) (weights1 : Nat → Int32) (signs1 : Nat → Int32) (lengths1 : Nat → Int32) (sums1 : Nat → Int64) (nextSums1 : Nat → Int64) : Option (Int64 × (Nat → Int64) × (Nat → Int64)) :=
  gA 4 lengths1 i1 fun v_2 =>
  if v_2 = 0 then
    some (0, sums1, nextSums1)
  else
    nm (α := Int32) (0) fun x4_4 =>
    Option.bind (f_X1_totalThrough_L14 i1 i2 i3 weights1 signs1 FU x4_4 sums1) fun (z4_29, sums1_30) =>
    nm (α := Int32) (1) fun x4_32 =>
    Option.bind (f_X1_totalThrough_L68 i1 i2 i3 weights1 signs1 lengths1 FU x4_32 sums1_30 nextSums1) fun (z4_85, sums1_86, nextSums1_87) =>
    nm (α := Int64) (0) fun j4_89 =>
    nm (α := Int32) (0) fun x6_90 =>
    Option.bind (f_X1_totalThrough_L175 sums1_86 FU x6_90 j4_89) fun (z6_100, z4_101) =>
    some (z4_101, sums1_86, nextSums1_87)
set_option maxHeartbeats 4000000 in
set_option maxRecDepth 100000 in
theorem c_X1_totalThrough (l : Launch) (D : va_G) (cI cJ : ClassId) (h1 weights1a freshWeights1a signs1a lengths1a sums1a nextSums1a bestFrom1a bestPath1a : Nat) (weights1 : Nat → Int32) (freshWeights1 : Nat → Int32) (signs1 : Nat → Int32) (lengths1 : Nat → Int32) (sums1 : Nat → Int64) (nextSums1 : Nat → Int64) (bestFrom1 : Nat → Int64) (bestPath1 : Nat → Int32) (i1 : Int32) (i2 : Int32) (i3 : Int32) (ret9 : Int64) (sums1z : Nat → Int64) (nextSums1z : Nat → Int64) (h : f_X1_totalThrough i1 i2 i3 weights1 signs1 lengths1 sums1 nextSums1 = some (ret9, sums1z, nextSums1z)) : CL l D cI cJ yX1_totalThrough wsX1_totalThrough 2 45 [.ref h1, .int i1, .int i2, .int i3] (w1 cI cJ h1 weights1a freshWeights1a signs1a lengths1a sums1a nextSums1a bestFrom1a bestPath1a weights1 freshWeights1 signs1 lengths1 sums1 nextSums1 bestFrom1 bestPath1) (w1 cI cJ h1 weights1a freshWeights1a signs1a lengths1a sums1a nextSums1a bestFrom1a bestPath1a weights1 freshWeights1 signs1 lengths1 sums1z nextSums1z bestFrom1 bestPath1) ret9 := by
  refine entL (cc := cX1_totalThrough) (maxL := 7) (by decide) rfl (Nat.le_of_ble_eq_true rfl) ?_
  intro p e s m args below meth c ls A Q X hret
  obtain ⟨hx, hb, hml, hts, hown, hK, hA, hP, hD, hS, hl, hnm⟩ := X
  have hown : s.vm.findClass RX1 = some m.cls := hown
  have hl : lv_has ls 7 [(0, .ref h1), (1, .int i1), (2, .int i2), (3, .int i3)] := hl
  have hw1 : (Cond.fieldLink RX1 21 "CountLearners$HiddenStates" "lengths" "[I").before args s = true := hts _ (by decide +kernel)
  have hinX1 : ∀ w ∈ wsX10, w ∈ wsX1_totalThrough := by decide +kernel
  have hw3 : (Cond.fieldLink RX1 24 "CountLearners$HiddenStates" "sums" "[J").before args s = true := hts _ (by decide +kernel)
  have hw4 : (Cond.fieldLink RX1 11 "CountLearners$HiddenStates" "weights" "[I").before args s = true := hts _ (by decide +kernel)
  have hw5 : (Cond.fieldLink RX1 28 "CountLearners$HiddenStates" "nextSums" "[J").before args s = true := hts _ (by decide +kernel)
  unfold f_X1_totalThrough at h
  refine lv_aload_n hx hb dX1_totalThrough_0 rfl (lv_at hl 0 rfl) ?_
  refine va_get (D := D) (ci := 0) (v := .ref lengths1a) (C := RX1) (T := TX1) (N := 8) hx hb hts hinX1 hown hK.1 hP 0 rfl rfl 3 (by decide) hw1 (fun _ h9 => h9) rfl dX1_totalThrough_1 ?_
  refine lv_iload_n hx hb dX1_totalThrough_4 rfl (lv_at hl 1 rfl) ?_
  obtain ⟨hi_1, h⟩ := gA_s h
  refine va_iald hx hb hK.1 hP 4 0 rfl rfl hi_1 dX1_totalThrough_5 ?_
  refine lv_topi (fun v_2 ev_2 => ?_)
  have h := h v_2 ev_2
  refine lv_if_ne (tgt := 11) hx hb dX1_totalThrough_6 (by decide) (fun c_3 => ?_) (fun c_3 => ?_)
  · have h := it_n c_3 h
    refine lv_iconst (v := 0) hx hb dX1_totalThrough_11 (by decide) ?_
    refine lv_topi (fun x4_4 ex4_4 => ?_)
    have h := nm_s h x4_4 ex4_4
    refine lv_istore (lv' := [(4, .int x4_4), (0, .ref h1), (1, .int i1), (2, .int i2), (3, .int i3)]) hx hb dX1_totalThrough_12 hl (by decide) rfl (fun ls hl => ?_)
    have L14 : ∀ (n : Nat) (y4_5 : Int32) (sums1_6 : Nat → Int64) (z4_7 : Int32) (sums1_8 : Nat → Int64), f_X1_totalThrough_L14 i1 i2 i3 weights1 signs1 n y4_5 sums1_6 = some (z4_7, sums1_8) → ∀ (H : Heap) (locs : List Loc) (ls : Array Slot), va_P D vwK (w1 cI cJ h1 weights1a freshWeights1a signs1a lengths1a sums1a nextSums1a bestFrom1a bestPath1a weights1 freshWeights1 signs1 lengths1 sums1_6 nextSums1 bestFrom1 bestPath1) H → va_D A (w1 cI cJ h1 weights1a freshWeights1a signs1a lengths1a sums1a nextSums1a bestFrom1a bestPath1a weights1 freshWeights1 signs1 lengths1 sums1_6 nextSums1 bestFrom1 bestPath1) → va_S A s.heap H locs → lv_has ls 7 [(4, .int y4_5), (0, .ref h1), (1, .int i1), (2, .int i2), (3, .int i3)] → (∀ (H : Heap) (locs : List Loc) (ls : Array Slot), va_P D vwK (w1 cI cJ h1 weights1a freshWeights1a signs1a lengths1a sums1a nextSums1a bestFrom1a bestPath1a weights1 freshWeights1 signs1 lengths1 sums1_8 nextSums1 bestFrom1 bestPath1) H → va_D A (w1 cI cJ h1 weights1a freshWeights1a signs1a lengths1a sums1a nextSums1a bestFrom1a bestPath1a weights1 freshWeights1 signs1 lengths1 sums1_8 nextSums1 bestFrom1 bestPath1) → va_S A s.heap H locs → lv_has ls 7 [(0, .ref h1), (1, .int i1), (2, .int i2), (3, .int i3)] → W p l e (rmOf 2 45) s m args below meth c H locs 0 0 Q (F0 m 65 ls [])) → W p l e (rmOf 2 45) s m args below meth c H locs 0 0 Q (F0 m 14 ls []) := by
      intro n
      induction n with
      | zero => intro y4_5 sums1_6 z4_7 sums1_8 h; rw [f_X1_totalThrough_L14.eq_1] at h; cases h
      | succ n ih =>
        intro y4_5 sums1_6 z4_7 sums1_8 h H locs ls hP hD hS hl K
        rw [f_X1_totalThrough_L14.eq_2] at h
        refine lv_iload hx hb dX1_totalThrough_14 (lv_at hl 0 rfl) ?_
        refine lv_iconst (v := 4) hx hb dX1_totalThrough_16 (by decide) ?_
        refine lv_icmp_ge (tgt := 65) hx hb dX1_totalThrough_17 (by decide) (fun c_9 => ?_) (fun c_9 => ?_)
        · have h := it_p c_9 h
          cases h
          exact K _ _ _ hP hD hS (lv_sub hl [1, 2, 3, 4] rfl)
        · have h := it_n c_9 h
          refine lv_aload_n hx hb dX1_totalThrough_20 rfl (lv_at hl 1 rfl) ?_
          refine va_get (D := D) (ci := 0) (v := .ref sums1a) (C := RX1) (T := TX1) (N := 8) hx hb hts hinX1 hown hK.1 hP 0 rfl rfl 4 (by decide) hw3 (fun _ h9 => h9) rfl dX1_totalThrough_21 ?_
          refine lv_iload hx hb dX1_totalThrough_24 (lv_at hl 0 rfl) ?_
          refine lv_iload_n hx hb dX1_totalThrough_26 rfl (lv_at hl 3 rfl) ?_
          refine lv_if_ne (tgt := 40) hx hb dX1_totalThrough_27 (by decide) (fun c_10 => ?_) (fun c_10 => ?_)
          · have h := it_n c_10 h
            refine lv_aload_n hx hb dX1_totalThrough_40 rfl (lv_at hl 1 rfl) ?_
            refine va_get (D := D) (ci := 0) (v := .ref weights1a) (C := RX1) (T := TX1) (N := 8) hx hb hts hinX1 hown hK.1 hP 0 rfl rfl 0 (by decide) hw4 (fun _ h9 => h9) rfl dX1_totalThrough_41 ?_
            refine lv_iload hx hb dX1_totalThrough_44 (lv_at hl 0 rfl) ?_
            obtain ⟨hi_11, h⟩ := gA_s h
            refine va_iald hx hb hK.1 hP 1 0 rfl rfl hi_11 dX1_totalThrough_46 ?_
            refine lv_topi (fun v_12 ev_12 => ?_)
            have h := h v_12 ev_12
            refine lv_i2l (v := (Int32.toInt64 v_12)) hx hb dX1_totalThrough_47 rfl ?_
            refine lv_aload_n hx hb dX1_totalThrough_48 rfl (lv_at hl 1 rfl) ?_
            refine lv_iload_n hx hb dX1_totalThrough_49 rfl (lv_at hl 2 rfl) ?_
            refine lv_iconst (v := 0) hx hb dX1_totalThrough_50 (by decide) ?_
            refine lv_iload hx hb dX1_totalThrough_51 (lv_at hl 0 rfl) ?_
            obtain ⟨r_13, hc_14, h⟩ := bd_s h
            refine callTi (As := [.int i1, .int 0, .int y4_5]) (rest := [.long (Int32.toInt64 v_12), .int y4_5, .ref sums1a]) ⟨hx, hb, hml, hown, hts⟩ (c_X1_shown l D cI cJ h1 weights1a freshWeights1a signs1a lengths1a sums1a nextSums1a bestFrom1a bestPath1a weights1 freshWeights1 signs1 lengths1 sums1_6 nextSums1 bestFrom1 bestPath1 i1 0 y4_5 r_13 hc_14) (cwV 3 hts gX1_totalThrough_X1_shown rfl rfl rfl (by decide +kernel) ⟨Nat.le_of_ble_eq_true rfl, Nat.le_of_ble_eq_true rfl⟩) hK hP hD hS hA 0 0 rfl rfl rfl rfl hl.1 rfl (Nat.le_of_ble_eq_true rfl) dX1_totalThrough_53 ⟨Nat.zero_le _, Nat.zero_le _⟩ (fun H locs hP hD hS => ?_)
            refine lv_i2l (v := (Int32.toInt64 r_13)) hx hb dX1_totalThrough_56 rfl ?_
            refine lv_lmul hx hb dX1_totalThrough_57 ?_
            obtain ⟨hi_15, h⟩ := sL_s h
            refine va_last hx hb hK.1 hP hD hS 5 1 rfl rfl hi_15 dX1_totalThrough_58 (fun H locs hP hD hS => ?_)
            obtain ⟨sums1_16, esums1_16⟩ : ∃ z, z = vp_updL sums1_6 (Int32.toNatClampNeg y4_5) ((Int32.toInt64 v_12) * (Int32.toInt64 r_13)) := ⟨_, rfl⟩
            have h := h sums1_16 esums1_16
            rw [← esums1_16] at hP hD
            have hP : va_P D vwK (w1 cI cJ h1 weights1a freshWeights1a signs1a lengths1a sums1a nextSums1a bestFrom1a bestPath1a weights1 freshWeights1 signs1 lengths1 sums1_16 nextSums1 bestFrom1 bestPath1) H := hP
            have hD : va_D A (w1 cI cJ h1 weights1a freshWeights1a signs1a lengths1a sums1a nextSums1a bestFrom1a bestPath1a weights1 freshWeights1 signs1 lengths1 sums1_16 nextSums1 bestFrom1 bestPath1) := hD
            obtain ⟨x4_17, ex4_17⟩ : ∃ z : Int32, z = y4_5 + 1 := ⟨_, rfl⟩
            have h := nm_s h x4_17 ex4_17
            refine lv_iinc (v := x4_17) (lv' := [(4, .int x4_17), (0, .ref h1), (1, .int i1), (2, .int i2), (3, .int i3)]) hx hb dX1_totalThrough_59 hl (k := 0) rfl (by rw [ex4_17]; rfl) (by decide) rfl (fun ls hl => ?_)
            refine lv_goto (tgt := 14) hx hb dX1_totalThrough_62 (by decide) ?_
            exact ih _ _ _ _ h _ _ _ hP hD hS (lv_sub hl [0, 1, 2, 3, 4] rfl) K
          · have h := it_p c_10 h
            refine lv_iload hx hb dX1_totalThrough_30 (lv_at hl 0 rfl) ?_
            refine lv_iload_n hx hb dX1_totalThrough_32 rfl (lv_at hl 4 rfl) ?_
            refine lv_icmp_eq (tgt := 40) hx hb dX1_totalThrough_33 (by decide) (fun c_18 => ?_) (fun c_18 => ?_)
            · have h := it_p c_18 h
              refine lv_aload_n hx hb dX1_totalThrough_40 rfl (lv_at hl 1 rfl) ?_
              refine va_get (D := D) (ci := 0) (v := .ref weights1a) (C := RX1) (T := TX1) (N := 8) hx hb hts hinX1 hown hK.1 hP 0 rfl rfl 0 (by decide) hw4 (fun _ h9 => h9) rfl dX1_totalThrough_41 ?_
              refine lv_iload hx hb dX1_totalThrough_44 (lv_at hl 0 rfl) ?_
              obtain ⟨hi_19, h⟩ := gA_s h
              refine va_iald hx hb hK.1 hP 1 0 rfl rfl hi_19 dX1_totalThrough_46 ?_
              refine lv_topi (fun v_20 ev_20 => ?_)
              have h := h v_20 ev_20
              refine lv_i2l (v := (Int32.toInt64 v_20)) hx hb dX1_totalThrough_47 rfl ?_
              refine lv_aload_n hx hb dX1_totalThrough_48 rfl (lv_at hl 1 rfl) ?_
              refine lv_iload_n hx hb dX1_totalThrough_49 rfl (lv_at hl 2 rfl) ?_
              refine lv_iconst (v := 0) hx hb dX1_totalThrough_50 (by decide) ?_
              refine lv_iload hx hb dX1_totalThrough_51 (lv_at hl 0 rfl) ?_
              obtain ⟨r_21, hc_22, h⟩ := bd_s h
              refine callTi (As := [.int i1, .int 0, .int y4_5]) (rest := [.long (Int32.toInt64 v_20), .int y4_5, .ref sums1a]) ⟨hx, hb, hml, hown, hts⟩ (c_X1_shown l D cI cJ h1 weights1a freshWeights1a signs1a lengths1a sums1a nextSums1a bestFrom1a bestPath1a weights1 freshWeights1 signs1 lengths1 sums1_6 nextSums1 bestFrom1 bestPath1 i1 0 y4_5 r_21 hc_22) (cwV 3 hts gX1_totalThrough_X1_shown rfl rfl rfl (by decide +kernel) ⟨Nat.le_of_ble_eq_true rfl, Nat.le_of_ble_eq_true rfl⟩) hK hP hD hS hA 0 0 rfl rfl rfl rfl hl.1 rfl (Nat.le_of_ble_eq_true rfl) dX1_totalThrough_53 ⟨Nat.zero_le _, Nat.zero_le _⟩ (fun H locs hP hD hS => ?_)
              refine lv_i2l (v := (Int32.toInt64 r_21)) hx hb dX1_totalThrough_56 rfl ?_
              refine lv_lmul hx hb dX1_totalThrough_57 ?_
              obtain ⟨hi_23, h⟩ := sL_s h
              refine va_last hx hb hK.1 hP hD hS 5 1 rfl rfl hi_23 dX1_totalThrough_58 (fun H locs hP hD hS => ?_)
              obtain ⟨sums1_24, esums1_24⟩ : ∃ z, z = vp_updL sums1_6 (Int32.toNatClampNeg y4_5) ((Int32.toInt64 v_20) * (Int32.toInt64 r_21)) := ⟨_, rfl⟩
              have h := h sums1_24 esums1_24
              rw [← esums1_24] at hP hD
              have hP : va_P D vwK (w1 cI cJ h1 weights1a freshWeights1a signs1a lengths1a sums1a nextSums1a bestFrom1a bestPath1a weights1 freshWeights1 signs1 lengths1 sums1_24 nextSums1 bestFrom1 bestPath1) H := hP
              have hD : va_D A (w1 cI cJ h1 weights1a freshWeights1a signs1a lengths1a sums1a nextSums1a bestFrom1a bestPath1a weights1 freshWeights1 signs1 lengths1 sums1_24 nextSums1 bestFrom1 bestPath1) := hD
              obtain ⟨x4_25, ex4_25⟩ : ∃ z : Int32, z = y4_5 + 1 := ⟨_, rfl⟩
              have h := nm_s h x4_25 ex4_25
              refine lv_iinc (v := x4_25) (lv' := [(4, .int x4_25), (0, .ref h1), (1, .int i1), (2, .int i2), (3, .int i3)]) hx hb dX1_totalThrough_59 hl (k := 0) rfl (by rw [ex4_25]; rfl) (by decide) rfl (fun ls hl => ?_)
              refine lv_goto (tgt := 14) hx hb dX1_totalThrough_62 (by decide) ?_
              exact ih _ _ _ _ h _ _ _ hP hD hS (lv_sub hl [0, 1, 2, 3, 4] rfl) K
            · have h := it_n c_18 h
              refine lv_lconst (v := 0) hx hb dX1_totalThrough_36 (by decide) ?_
              refine lv_goto (tgt := 58) hx hb dX1_totalThrough_37 (by decide) ?_
              obtain ⟨hi_26, h⟩ := sL_s h
              refine va_last hx hb hK.1 hP hD hS 5 1 rfl rfl hi_26 dX1_totalThrough_58 (fun H locs hP hD hS => ?_)
              obtain ⟨sums1_27, esums1_27⟩ : ∃ z, z = vp_updL sums1_6 (Int32.toNatClampNeg y4_5) 0 := ⟨_, rfl⟩
              have h := h sums1_27 esums1_27
              rw [← esums1_27] at hP hD
              have hP : va_P D vwK (w1 cI cJ h1 weights1a freshWeights1a signs1a lengths1a sums1a nextSums1a bestFrom1a bestPath1a weights1 freshWeights1 signs1 lengths1 sums1_27 nextSums1 bestFrom1 bestPath1) H := hP
              have hD : va_D A (w1 cI cJ h1 weights1a freshWeights1a signs1a lengths1a sums1a nextSums1a bestFrom1a bestPath1a weights1 freshWeights1 signs1 lengths1 sums1_27 nextSums1 bestFrom1 bestPath1) := hD
              obtain ⟨x4_28, ex4_28⟩ : ∃ z : Int32, z = y4_5 + 1 := ⟨_, rfl⟩
              have h := nm_s h x4_28 ex4_28
              refine lv_iinc (v := x4_28) (lv' := [(4, .int x4_28), (0, .ref h1), (1, .int i1), (2, .int i2), (3, .int i3)]) hx hb dX1_totalThrough_59 hl (k := 0) rfl (by rw [ex4_28]; rfl) (by decide) rfl (fun ls hl => ?_)
              refine lv_goto (tgt := 14) hx hb dX1_totalThrough_62 (by decide) ?_
              exact ih _ _ _ _ h _ _ _ hP hD hS (lv_sub hl [0, 1, 2, 3, 4] rfl) K
    obtain ⟨⟨z4_29, sums1_30⟩, hl_31, h⟩ := bd_s h
    refine L14 FU x4_4 sums1 _ _ hl_31 _ _ _ hP hD hS (lv_sub hl [0, 1, 2, 3, 4] rfl) (fun H locs ls hP hD hS hl => ?_)
    refine lv_iconst (v := 1) hx hb dX1_totalThrough_65 (by decide) ?_
    refine lv_topi (fun x4_32 ex4_32 => ?_)
    have h := nm_s h x4_32 ex4_32
    refine lv_istore (lv' := [(4, .int x4_32), (0, .ref h1), (1, .int i1), (2, .int i2), (3, .int i3)]) hx hb dX1_totalThrough_66 hl (by decide) rfl (fun ls hl => ?_)
    have L68 : ∀ (n : Nat) (y4_33 : Int32) (sums1_34 : Nat → Int64) (nextSums1_35 : Nat → Int64) (z4_36 : Int32) (sums1_37 : Nat → Int64) (nextSums1_38 : Nat → Int64), f_X1_totalThrough_L68 i1 i2 i3 weights1 signs1 lengths1 n y4_33 sums1_34 nextSums1_35 = some (z4_36, sums1_37, nextSums1_38) → ∀ (H : Heap) (locs : List Loc) (ls : Array Slot), va_P D vwK (w1 cI cJ h1 weights1a freshWeights1a signs1a lengths1a sums1a nextSums1a bestFrom1a bestPath1a weights1 freshWeights1 signs1 lengths1 sums1_34 nextSums1_35 bestFrom1 bestPath1) H → va_D A (w1 cI cJ h1 weights1a freshWeights1a signs1a lengths1a sums1a nextSums1a bestFrom1a bestPath1a weights1 freshWeights1 signs1 lengths1 sums1_34 nextSums1_35 bestFrom1 bestPath1) → va_S A s.heap H locs → lv_has ls 7 [(4, .int y4_33), (0, .ref h1), (1, .int i1), (2, .int i2), (3, .int i3)] → (∀ (H : Heap) (locs : List Loc) (ls : Array Slot), va_P D vwK (w1 cI cJ h1 weights1a freshWeights1a signs1a lengths1a sums1a nextSums1a bestFrom1a bestPath1a weights1 freshWeights1 signs1 lengths1 sums1_37 nextSums1_38 bestFrom1 bestPath1) H → va_D A (w1 cI cJ h1 weights1a freshWeights1a signs1a lengths1a sums1a nextSums1a bestFrom1a bestPath1a weights1 freshWeights1 signs1 lengths1 sums1_37 nextSums1_38 bestFrom1 bestPath1) → va_S A s.heap H locs → lv_has ls 7 [(0, .ref h1)] → W p l e (rmOf 2 45) s m args below meth c H locs 0 0 Q (F0 m 169 ls [])) → W p l e (rmOf 2 45) s m args below meth c H locs 0 0 Q (F0 m 68 ls []) := by
      intro n
      induction n with
      | zero => intro y4_33 sums1_34 nextSums1_35 z4_36 sums1_37 nextSums1_38 h; rw [f_X1_totalThrough_L68.eq_1] at h; cases h
      | succ n ih =>
        intro y4_33 sums1_34 nextSums1_35 z4_36 sums1_37 nextSums1_38 h H locs ls hP hD hS hl K
        rw [f_X1_totalThrough_L68.eq_2] at h
        refine lv_iload hx hb dX1_totalThrough_68 (lv_at hl 0 rfl) ?_
        refine lv_aload_n hx hb dX1_totalThrough_70 rfl (lv_at hl 1 rfl) ?_
        refine va_get (D := D) (ci := 0) (v := .ref lengths1a) (C := RX1) (T := TX1) (N := 8) hx hb hts hinX1 hown hK.1 hP 0 rfl rfl 3 (by decide) hw1 (fun _ h9 => h9) rfl dX1_totalThrough_71 ?_
        refine lv_iload_n hx hb dX1_totalThrough_74 rfl (lv_at hl 2 rfl) ?_
        obtain ⟨hi_39, h⟩ := gA_s h
        refine va_iald hx hb hK.1 hP 4 0 rfl rfl hi_39 dX1_totalThrough_75 ?_
        refine lv_topi (fun v_40 ev_40 => ?_)
        have h := h v_40 ev_40
        refine lv_icmp_ge (tgt := 169) hx hb dX1_totalThrough_76 (by decide) (fun c_41 => ?_) (fun c_41 => ?_)
        · have h := it_p c_41 h
          cases h
          exact K _ _ _ hP hD hS (lv_sub hl [1] rfl)
        · have h := it_n c_41 h
          refine lv_iconst (v := 0) hx hb dX1_totalThrough_79 (by decide) ?_
          refine lv_topi (fun x5_42 ex5_42 => ?_)
          have h := nm_s h x5_42 ex5_42
          refine lv_istore (lv' := [(5, .int x5_42), (4, .int y4_33), (0, .ref h1), (1, .int i1), (2, .int i2), (3, .int i3)]) hx hb dX1_totalThrough_80 hl (by decide) rfl (fun ls hl => ?_)
          have L82 : ∀ (n : Nat) (y5_43 : Int32) (nextSums1_44 : Nat → Int64) (z5_45 : Int32) (nextSums1_46 : Nat → Int64), f_X1_totalThrough_L82 y4_33 i1 i2 i3 weights1 signs1 sums1_34 n y5_43 nextSums1_44 = some (z5_45, nextSums1_46) → ∀ (H : Heap) (locs : List Loc) (ls : Array Slot), va_P D vwK (w1 cI cJ h1 weights1a freshWeights1a signs1a lengths1a sums1a nextSums1a bestFrom1a bestPath1a weights1 freshWeights1 signs1 lengths1 sums1_34 nextSums1_44 bestFrom1 bestPath1) H → va_D A (w1 cI cJ h1 weights1a freshWeights1a signs1a lengths1a sums1a nextSums1a bestFrom1a bestPath1a weights1 freshWeights1 signs1 lengths1 sums1_34 nextSums1_44 bestFrom1 bestPath1) → va_S A s.heap H locs → lv_has ls 7 [(5, .int y5_43), (4, .int y4_33), (0, .ref h1), (1, .int i1), (2, .int i2), (3, .int i3)] → (∀ (H : Heap) (locs : List Loc) (ls : Array Slot), va_P D vwK (w1 cI cJ h1 weights1a freshWeights1a signs1a lengths1a sums1a nextSums1a bestFrom1a bestPath1a weights1 freshWeights1 signs1 lengths1 sums1_34 nextSums1_46 bestFrom1 bestPath1) H → va_D A (w1 cI cJ h1 weights1a freshWeights1a signs1a lengths1a sums1a nextSums1a bestFrom1a bestPath1a weights1 freshWeights1 signs1 lengths1 sums1_34 nextSums1_46 bestFrom1 bestPath1) → va_S A s.heap H locs → lv_has ls 7 [(4, .int y4_33), (0, .ref h1), (1, .int i1), (2, .int i2), (3, .int i3)] → W p l e (rmOf 2 45) s m args below meth c H locs 0 0 Q (F0 m 134 ls [])) → W p l e (rmOf 2 45) s m args below meth c H locs 0 0 Q (F0 m 82 ls []) := by
            intro n
            induction n with
            | zero => intro y5_43 nextSums1_44 z5_45 nextSums1_46 h; rw [f_X1_totalThrough_L82.eq_1] at h; cases h
            | succ n ih =>
              intro y5_43 nextSums1_44 z5_45 nextSums1_46 h H locs ls hP hD hS hl K
              rw [f_X1_totalThrough_L82.eq_2] at h
              refine lv_iload hx hb dX1_totalThrough_82 (lv_at hl 0 rfl) ?_
              refine lv_iconst (v := 4) hx hb dX1_totalThrough_84 (by decide) ?_
              refine lv_icmp_ge (tgt := 134) hx hb dX1_totalThrough_85 (by decide) (fun c_47 => ?_) (fun c_47 => ?_)
              · have h := it_p c_47 h
                cases h
                exact K _ _ _ hP hD hS (lv_sub hl [1, 2, 3, 4, 5] rfl)
              · have h := it_n c_47 h
                refine lv_aload_n hx hb dX1_totalThrough_88 rfl (lv_at hl 2 rfl) ?_
                refine va_get (D := D) (ci := 0) (v := .ref nextSums1a) (C := RX1) (T := TX1) (N := 8) hx hb hts hinX1 hown hK.1 hP 0 rfl rfl 5 (by decide) hw5 (fun _ h9 => h9) rfl dX1_totalThrough_89 ?_
                refine lv_iload hx hb dX1_totalThrough_92 (lv_at hl 0 rfl) ?_
                refine lv_iload_n hx hb dX1_totalThrough_94 rfl (lv_at hl 4 rfl) ?_
                refine lv_iload hx hb dX1_totalThrough_95 (lv_at hl 1 rfl) ?_
                refine lv_icmp_ne (tgt := 110) hx hb dX1_totalThrough_97 (by decide) (fun c_48 => ?_) (fun c_48 => ?_)
                · have h := it_n c_48 h
                  refine lv_aload_n hx hb dX1_totalThrough_110 rfl (lv_at hl 2 rfl) ?_
                  refine lv_iload hx hb dX1_totalThrough_111 (lv_at hl 0 rfl) ?_
                  obtain ⟨rj_49, hc_50, h⟩ := bd_s h
                  refine callTl (As := [.int y5_43]) (rest := [.int y5_43, .ref nextSums1a]) ⟨hx, hb, hml, hown, hts⟩ (c_X1_sumInto l D cI cJ h1 weights1a freshWeights1a signs1a lengths1a sums1a nextSums1a bestFrom1a bestPath1a weights1 freshWeights1 signs1 lengths1 sums1_34 nextSums1_44 bestFrom1 bestPath1 y5_43 rj_49 hc_50) (cwV 1 hts gX1_totalThrough_X1_sumInto rfl rfl rfl (by decide +kernel) ⟨Nat.le_of_ble_eq_true rfl, Nat.le_of_ble_eq_true rfl⟩) hK hP hD hS hA 0 0 rfl rfl rfl rfl hl.1 rfl (Nat.le_of_ble_eq_true rfl) dX1_totalThrough_113 ⟨Nat.zero_le _, Nat.zero_le _⟩ (fun H locs hP hD hS => ?_)
                  refine lv_aload_n hx hb dX1_totalThrough_116 rfl (lv_at hl 2 rfl) ?_
                  refine lv_iload_n hx hb dX1_totalThrough_117 rfl (lv_at hl 3 rfl) ?_
                  refine lv_iload hx hb dX1_totalThrough_118 (lv_at hl 1 rfl) ?_
                  refine lv_iload hx hb dX1_totalThrough_120 (lv_at hl 0 rfl) ?_
                  obtain ⟨r_51, hc_52, h⟩ := bd_s h
                  refine callTi (As := [.int i1, .int y4_33, .int y5_43]) (rest := [.long rj_49, .int y5_43, .ref nextSums1a]) ⟨hx, hb, hml, hown, hts⟩ (c_X1_shown l D cI cJ h1 weights1a freshWeights1a signs1a lengths1a sums1a nextSums1a bestFrom1a bestPath1a weights1 freshWeights1 signs1 lengths1 sums1_34 nextSums1_44 bestFrom1 bestPath1 i1 y4_33 y5_43 r_51 hc_52) (cwV 3 hts gX1_totalThrough_X1_shown rfl rfl rfl (by decide +kernel) ⟨Nat.le_of_ble_eq_true rfl, Nat.le_of_ble_eq_true rfl⟩) hK hP hD hS hA 0 0 rfl rfl rfl rfl hl.1 rfl (Nat.le_of_ble_eq_true rfl) dX1_totalThrough_122 ⟨Nat.zero_le _, Nat.zero_le _⟩ (fun H locs hP hD hS => ?_)
                  refine lv_i2l (v := (Int32.toInt64 r_51)) hx hb dX1_totalThrough_125 rfl ?_
                  refine lv_lmul hx hb dX1_totalThrough_126 ?_
                  obtain ⟨hi_53, h⟩ := sL_s h
                  refine va_last hx hb hK.1 hP hD hS 6 1 rfl rfl hi_53 dX1_totalThrough_127 (fun H locs hP hD hS => ?_)
                  obtain ⟨nextSums1_54, enextSums1_54⟩ : ∃ z, z = vp_updL nextSums1_44 (Int32.toNatClampNeg y5_43) (rj_49 * (Int32.toInt64 r_51)) := ⟨_, rfl⟩
                  have h := h nextSums1_54 enextSums1_54
                  rw [← enextSums1_54] at hP hD
                  have hP : va_P D vwK (w1 cI cJ h1 weights1a freshWeights1a signs1a lengths1a sums1a nextSums1a bestFrom1a bestPath1a weights1 freshWeights1 signs1 lengths1 sums1_34 nextSums1_54 bestFrom1 bestPath1) H := hP
                  have hD : va_D A (w1 cI cJ h1 weights1a freshWeights1a signs1a lengths1a sums1a nextSums1a bestFrom1a bestPath1a weights1 freshWeights1 signs1 lengths1 sums1_34 nextSums1_54 bestFrom1 bestPath1) := hD
                  obtain ⟨x5_55, ex5_55⟩ : ∃ z : Int32, z = y5_43 + 1 := ⟨_, rfl⟩
                  have h := nm_s h x5_55 ex5_55
                  refine lv_iinc (v := x5_55) (lv' := [(5, .int x5_55), (4, .int y4_33), (0, .ref h1), (1, .int i1), (2, .int i2), (3, .int i3)]) hx hb dX1_totalThrough_128 hl (k := 0) rfl (by rw [ex5_55]; rfl) (by decide) rfl (fun ls hl => ?_)
                  refine lv_goto (tgt := 82) hx hb dX1_totalThrough_131 (by decide) ?_
                  exact ih _ _ _ _ h _ _ _ hP hD hS (lv_sub hl [0, 1, 2, 3, 4, 5] rfl) K
                · have h := it_p c_48 h
                  refine lv_iload hx hb dX1_totalThrough_100 (lv_at hl 0 rfl) ?_
                  refine lv_iload_n hx hb dX1_totalThrough_102 rfl (lv_at hl 5 rfl) ?_
                  refine lv_icmp_eq (tgt := 110) hx hb dX1_totalThrough_103 (by decide) (fun c_56 => ?_) (fun c_56 => ?_)
                  · have h := it_p c_56 h
                    refine lv_aload_n hx hb dX1_totalThrough_110 rfl (lv_at hl 2 rfl) ?_
                    refine lv_iload hx hb dX1_totalThrough_111 (lv_at hl 0 rfl) ?_
                    obtain ⟨rj_57, hc_58, h⟩ := bd_s h
                    refine callTl (As := [.int y5_43]) (rest := [.int y5_43, .ref nextSums1a]) ⟨hx, hb, hml, hown, hts⟩ (c_X1_sumInto l D cI cJ h1 weights1a freshWeights1a signs1a lengths1a sums1a nextSums1a bestFrom1a bestPath1a weights1 freshWeights1 signs1 lengths1 sums1_34 nextSums1_44 bestFrom1 bestPath1 y5_43 rj_57 hc_58) (cwV 1 hts gX1_totalThrough_X1_sumInto rfl rfl rfl (by decide +kernel) ⟨Nat.le_of_ble_eq_true rfl, Nat.le_of_ble_eq_true rfl⟩) hK hP hD hS hA 0 0 rfl rfl rfl rfl hl.1 rfl (Nat.le_of_ble_eq_true rfl) dX1_totalThrough_113 ⟨Nat.zero_le _, Nat.zero_le _⟩ (fun H locs hP hD hS => ?_)
                    refine lv_aload_n hx hb dX1_totalThrough_116 rfl (lv_at hl 2 rfl) ?_
                    refine lv_iload_n hx hb dX1_totalThrough_117 rfl (lv_at hl 3 rfl) ?_
                    refine lv_iload hx hb dX1_totalThrough_118 (lv_at hl 1 rfl) ?_
                    refine lv_iload hx hb dX1_totalThrough_120 (lv_at hl 0 rfl) ?_
                    obtain ⟨r_59, hc_60, h⟩ := bd_s h
                    refine callTi (As := [.int i1, .int y4_33, .int y5_43]) (rest := [.long rj_57, .int y5_43, .ref nextSums1a]) ⟨hx, hb, hml, hown, hts⟩ (c_X1_shown l D cI cJ h1 weights1a freshWeights1a signs1a lengths1a sums1a nextSums1a bestFrom1a bestPath1a weights1 freshWeights1 signs1 lengths1 sums1_34 nextSums1_44 bestFrom1 bestPath1 i1 y4_33 y5_43 r_59 hc_60) (cwV 3 hts gX1_totalThrough_X1_shown rfl rfl rfl (by decide +kernel) ⟨Nat.le_of_ble_eq_true rfl, Nat.le_of_ble_eq_true rfl⟩) hK hP hD hS hA 0 0 rfl rfl rfl rfl hl.1 rfl (Nat.le_of_ble_eq_true rfl) dX1_totalThrough_122 ⟨Nat.zero_le _, Nat.zero_le _⟩ (fun H locs hP hD hS => ?_)
                    refine lv_i2l (v := (Int32.toInt64 r_59)) hx hb dX1_totalThrough_125 rfl ?_
                    refine lv_lmul hx hb dX1_totalThrough_126 ?_
                    obtain ⟨hi_61, h⟩ := sL_s h
                    refine va_last hx hb hK.1 hP hD hS 6 1 rfl rfl hi_61 dX1_totalThrough_127 (fun H locs hP hD hS => ?_)
                    obtain ⟨nextSums1_62, enextSums1_62⟩ : ∃ z, z = vp_updL nextSums1_44 (Int32.toNatClampNeg y5_43) (rj_57 * (Int32.toInt64 r_59)) := ⟨_, rfl⟩
                    have h := h nextSums1_62 enextSums1_62
                    rw [← enextSums1_62] at hP hD
                    have hP : va_P D vwK (w1 cI cJ h1 weights1a freshWeights1a signs1a lengths1a sums1a nextSums1a bestFrom1a bestPath1a weights1 freshWeights1 signs1 lengths1 sums1_34 nextSums1_62 bestFrom1 bestPath1) H := hP
                    have hD : va_D A (w1 cI cJ h1 weights1a freshWeights1a signs1a lengths1a sums1a nextSums1a bestFrom1a bestPath1a weights1 freshWeights1 signs1 lengths1 sums1_34 nextSums1_62 bestFrom1 bestPath1) := hD
                    obtain ⟨x5_63, ex5_63⟩ : ∃ z : Int32, z = y5_43 + 1 := ⟨_, rfl⟩
                    have h := nm_s h x5_63 ex5_63
                    refine lv_iinc (v := x5_63) (lv' := [(5, .int x5_63), (4, .int y4_33), (0, .ref h1), (1, .int i1), (2, .int i2), (3, .int i3)]) hx hb dX1_totalThrough_128 hl (k := 0) rfl (by rw [ex5_63]; rfl) (by decide) rfl (fun ls hl => ?_)
                    refine lv_goto (tgt := 82) hx hb dX1_totalThrough_131 (by decide) ?_
                    exact ih _ _ _ _ h _ _ _ hP hD hS (lv_sub hl [0, 1, 2, 3, 4, 5] rfl) K
                  · have h := it_n c_56 h
                    refine lv_lconst (v := 0) hx hb dX1_totalThrough_106 (by decide) ?_
                    refine lv_goto (tgt := 127) hx hb dX1_totalThrough_107 (by decide) ?_
                    obtain ⟨hi_64, h⟩ := sL_s h
                    refine va_last hx hb hK.1 hP hD hS 6 1 rfl rfl hi_64 dX1_totalThrough_127 (fun H locs hP hD hS => ?_)
                    obtain ⟨nextSums1_65, enextSums1_65⟩ : ∃ z, z = vp_updL nextSums1_44 (Int32.toNatClampNeg y5_43) 0 := ⟨_, rfl⟩
                    have h := h nextSums1_65 enextSums1_65
                    rw [← enextSums1_65] at hP hD
                    have hP : va_P D vwK (w1 cI cJ h1 weights1a freshWeights1a signs1a lengths1a sums1a nextSums1a bestFrom1a bestPath1a weights1 freshWeights1 signs1 lengths1 sums1_34 nextSums1_65 bestFrom1 bestPath1) H := hP
                    have hD : va_D A (w1 cI cJ h1 weights1a freshWeights1a signs1a lengths1a sums1a nextSums1a bestFrom1a bestPath1a weights1 freshWeights1 signs1 lengths1 sums1_34 nextSums1_65 bestFrom1 bestPath1) := hD
                    obtain ⟨x5_66, ex5_66⟩ : ∃ z : Int32, z = y5_43 + 1 := ⟨_, rfl⟩
                    have h := nm_s h x5_66 ex5_66
                    refine lv_iinc (v := x5_66) (lv' := [(5, .int x5_66), (4, .int y4_33), (0, .ref h1), (1, .int i1), (2, .int i2), (3, .int i3)]) hx hb dX1_totalThrough_128 hl (k := 0) rfl (by rw [ex5_66]; rfl) (by decide) rfl (fun ls hl => ?_)
                    refine lv_goto (tgt := 82) hx hb dX1_totalThrough_131 (by decide) ?_
                    exact ih _ _ _ _ h _ _ _ hP hD hS (lv_sub hl [0, 1, 2, 3, 4, 5] rfl) K
          obtain ⟨⟨z5_67, nextSums1_68⟩, hl_69, h⟩ := bd_s h
          refine L82 FU x5_42 nextSums1_35 _ _ hl_69 _ _ _ hP hD hS (lv_sub hl [0, 1, 2, 3, 4, 5] rfl) (fun H locs ls hP hD hS hl => ?_)
          refine lv_iconst (v := 0) hx hb dX1_totalThrough_134 (by decide) ?_
          refine lv_topi (fun x5_70 ex5_70 => ?_)
          have h := nm_s h x5_70 ex5_70
          refine lv_istore (lv' := [(5, .int x5_70), (4, .int y4_33), (0, .ref h1), (1, .int i1), (2, .int i2), (3, .int i3)]) hx hb dX1_totalThrough_135 hl (by decide) rfl (fun ls hl => ?_)
          have L137 : ∀ (n : Nat) (y5_71 : Int32) (sums1_72 : Nat → Int64) (z5_73 : Int32) (sums1_74 : Nat → Int64), f_X1_totalThrough_L137 nextSums1_68 n y5_71 sums1_72 = some (z5_73, sums1_74) → ∀ (H : Heap) (locs : List Loc) (ls : Array Slot), va_P D vwK (w1 cI cJ h1 weights1a freshWeights1a signs1a lengths1a sums1a nextSums1a bestFrom1a bestPath1a weights1 freshWeights1 signs1 lengths1 sums1_72 nextSums1_68 bestFrom1 bestPath1) H → va_D A (w1 cI cJ h1 weights1a freshWeights1a signs1a lengths1a sums1a nextSums1a bestFrom1a bestPath1a weights1 freshWeights1 signs1 lengths1 sums1_72 nextSums1_68 bestFrom1 bestPath1) → va_S A s.heap H locs → lv_has ls 7 [(5, .int y5_71), (4, .int y4_33), (0, .ref h1), (1, .int i1), (2, .int i2), (3, .int i3)] → (∀ (H : Heap) (locs : List Loc) (ls : Array Slot), va_P D vwK (w1 cI cJ h1 weights1a freshWeights1a signs1a lengths1a sums1a nextSums1a bestFrom1a bestPath1a weights1 freshWeights1 signs1 lengths1 sums1_74 nextSums1_68 bestFrom1 bestPath1) H → va_D A (w1 cI cJ h1 weights1a freshWeights1a signs1a lengths1a sums1a nextSums1a bestFrom1a bestPath1a weights1 freshWeights1 signs1 lengths1 sums1_74 nextSums1_68 bestFrom1 bestPath1) → va_S A s.heap H locs → lv_has ls 7 [(4, .int y4_33), (0, .ref h1), (1, .int i1), (2, .int i2), (3, .int i3)] → W p l e (rmOf 2 45) s m args below meth c H locs 0 0 Q (F0 m 163 ls [])) → W p l e (rmOf 2 45) s m args below meth c H locs 0 0 Q (F0 m 137 ls []) := by
            intro n
            induction n with
            | zero => intro y5_71 sums1_72 z5_73 sums1_74 h; rw [f_X1_totalThrough_L137.eq_1] at h; cases h
            | succ n ih =>
              intro y5_71 sums1_72 z5_73 sums1_74 h H locs ls hP hD hS hl K
              rw [f_X1_totalThrough_L137.eq_2] at h
              refine lv_iload hx hb dX1_totalThrough_137 (lv_at hl 0 rfl) ?_
              refine lv_iconst (v := 4) hx hb dX1_totalThrough_139 (by decide) ?_
              refine lv_icmp_ge (tgt := 163) hx hb dX1_totalThrough_140 (by decide) (fun c_75 => ?_) (fun c_75 => ?_)
              · have h := it_p c_75 h
                cases h
                exact K _ _ _ hP hD hS (lv_sub hl [1, 2, 3, 4, 5] rfl)
              · have h := it_n c_75 h
                refine lv_aload_n hx hb dX1_totalThrough_143 rfl (lv_at hl 2 rfl) ?_
                refine va_get (D := D) (ci := 0) (v := .ref sums1a) (C := RX1) (T := TX1) (N := 8) hx hb hts hinX1 hown hK.1 hP 0 rfl rfl 4 (by decide) hw3 (fun _ h9 => h9) rfl dX1_totalThrough_144 ?_
                refine lv_iload hx hb dX1_totalThrough_147 (lv_at hl 0 rfl) ?_
                refine lv_aload_n hx hb dX1_totalThrough_149 rfl (lv_at hl 2 rfl) ?_
                refine va_get (D := D) (ci := 0) (v := .ref nextSums1a) (C := RX1) (T := TX1) (N := 8) hx hb hts hinX1 hown hK.1 hP 0 rfl rfl 5 (by decide) hw5 (fun _ h9 => h9) rfl dX1_totalThrough_150 ?_
                refine lv_iload hx hb dX1_totalThrough_153 (lv_at hl 0 rfl) ?_
                obtain ⟨hi_76, h⟩ := gA_s h
                refine va_lald hx hb hK.1 hP 6 1 rfl rfl hi_76 dX1_totalThrough_155 ?_
                refine lv_topl (fun v_77 ev_77 => ?_)
                have h := h v_77 ev_77
                obtain ⟨hi_78, h⟩ := sL_s h
                refine va_last hx hb hK.1 hP hD hS 5 1 rfl rfl hi_78 dX1_totalThrough_156 (fun H locs hP hD hS => ?_)
                obtain ⟨sums1_79, esums1_79⟩ : ∃ z, z = vp_updL sums1_72 (Int32.toNatClampNeg y5_71) v_77 := ⟨_, rfl⟩
                have h := h sums1_79 esums1_79
                rw [← esums1_79] at hP hD
                have hP : va_P D vwK (w1 cI cJ h1 weights1a freshWeights1a signs1a lengths1a sums1a nextSums1a bestFrom1a bestPath1a weights1 freshWeights1 signs1 lengths1 sums1_79 nextSums1_68 bestFrom1 bestPath1) H := hP
                have hD : va_D A (w1 cI cJ h1 weights1a freshWeights1a signs1a lengths1a sums1a nextSums1a bestFrom1a bestPath1a weights1 freshWeights1 signs1 lengths1 sums1_79 nextSums1_68 bestFrom1 bestPath1) := hD
                obtain ⟨x5_80, ex5_80⟩ : ∃ z : Int32, z = y5_71 + 1 := ⟨_, rfl⟩
                have h := nm_s h x5_80 ex5_80
                refine lv_iinc (v := x5_80) (lv' := [(5, .int x5_80), (4, .int y4_33), (0, .ref h1), (1, .int i1), (2, .int i2), (3, .int i3)]) hx hb dX1_totalThrough_157 hl (k := 0) rfl (by rw [ex5_80]; rfl) (by decide) rfl (fun ls hl => ?_)
                refine lv_goto (tgt := 137) hx hb dX1_totalThrough_160 (by decide) ?_
                exact ih _ _ _ _ h _ _ _ hP hD hS (lv_sub hl [0, 1, 2, 3, 4, 5] rfl) K
          obtain ⟨⟨z5_81, sums1_82⟩, hl_83, h⟩ := bd_s h
          refine L137 FU x5_70 sums1_34 _ _ hl_83 _ _ _ hP hD hS (lv_sub hl [0, 1, 2, 3, 4, 5] rfl) (fun H locs ls hP hD hS hl => ?_)
          obtain ⟨x4_84, ex4_84⟩ : ∃ z : Int32, z = y4_33 + 1 := ⟨_, rfl⟩
          have h := nm_s h x4_84 ex4_84
          refine lv_iinc (v := x4_84) (lv' := [(4, .int x4_84), (0, .ref h1), (1, .int i1), (2, .int i2), (3, .int i3)]) hx hb dX1_totalThrough_163 hl (k := 0) rfl (by rw [ex4_84]; rfl) (by decide) rfl (fun ls hl => ?_)
          refine lv_goto (tgt := 68) hx hb dX1_totalThrough_166 (by decide) ?_
          exact ih _ _ _ _ _ _ h _ _ _ hP hD hS (lv_sub hl [0, 1, 2, 3, 4] rfl) K
    obtain ⟨⟨z4_85, sums1_86, nextSums1_87⟩, hl_88, h⟩ := bd_s h
    refine L68 FU x4_32 sums1_30 nextSums1 _ _ _ hl_88 _ _ _ hP hD hS (lv_sub hl [0, 1, 2, 3, 4] rfl) (fun H locs ls hP hD hS hl => ?_)
    refine lv_lconst (v := 0) hx hb dX1_totalThrough_169 (by decide) ?_
    refine lv_topl (fun j4_89 ej4_89 => ?_)
    have h := nm_s h j4_89 ej4_89
    refine lv_lstore (lv' := [(4, .long j4_89), (0, .ref h1)]) hx hb dX1_totalThrough_170 hl (by decide) rfl (fun ls hl => ?_)
    refine lv_iconst (v := 0) hx hb dX1_totalThrough_172 (by decide) ?_
    refine lv_topi (fun x6_90 ex6_90 => ?_)
    have h := nm_s h x6_90 ex6_90
    refine lv_istore (lv' := [(6, .int x6_90), (4, .long j4_89), (0, .ref h1)]) hx hb dX1_totalThrough_173 hl (by decide) rfl (fun ls hl => ?_)
    have L175 : ∀ (n : Nat) (y6_91 : Int32) (k4_92 : Int64) (z6_93 : Int32) (z4_94 : Int64), f_X1_totalThrough_L175 sums1_86 n y6_91 k4_92 = some (z6_93, z4_94) → ∀ (H : Heap) (locs : List Loc) (ls : Array Slot), va_P D vwK (w1 cI cJ h1 weights1a freshWeights1a signs1a lengths1a sums1a nextSums1a bestFrom1a bestPath1a weights1 freshWeights1 signs1 lengths1 sums1_86 nextSums1_87 bestFrom1 bestPath1) H → va_D A (w1 cI cJ h1 weights1a freshWeights1a signs1a lengths1a sums1a nextSums1a bestFrom1a bestPath1a weights1 freshWeights1 signs1 lengths1 sums1_86 nextSums1_87 bestFrom1 bestPath1) → va_S A s.heap H locs → lv_has ls 7 [(6, .int y6_91), (4, .long k4_92), (0, .ref h1)] → (∀ (H : Heap) (locs : List Loc) (ls : Array Slot), va_P D vwK (w1 cI cJ h1 weights1a freshWeights1a signs1a lengths1a sums1a nextSums1a bestFrom1a bestPath1a weights1 freshWeights1 signs1 lengths1 sums1_86 nextSums1_87 bestFrom1 bestPath1) H → va_D A (w1 cI cJ h1 weights1a freshWeights1a signs1a lengths1a sums1a nextSums1a bestFrom1a bestPath1a weights1 freshWeights1 signs1 lengths1 sums1_86 nextSums1_87 bestFrom1 bestPath1) → va_S A s.heap H locs → lv_has ls 7 [(4, .long z4_94)] → W p l e (rmOf 2 45) s m args below meth c H locs 0 0 Q (F0 m 199 ls [])) → W p l e (rmOf 2 45) s m args below meth c H locs 0 0 Q (F0 m 175 ls []) := by
      intro n
      induction n with
      | zero => intro y6_91 k4_92 z6_93 z4_94 h; rw [f_X1_totalThrough_L175.eq_1] at h; cases h
      | succ n ih =>
        intro y6_91 k4_92 z6_93 z4_94 h H locs ls hP hD hS hl K
        rw [f_X1_totalThrough_L175.eq_2] at h
        refine lv_iload hx hb dX1_totalThrough_175 (lv_at hl 0 rfl) ?_
        refine lv_iconst (v := 4) hx hb dX1_totalThrough_177 (by decide) ?_
        refine lv_icmp_ge (tgt := 199) hx hb dX1_totalThrough_178 (by decide) (fun c_95 => ?_) (fun c_95 => ?_)
        · have h := it_p c_95 h
          cases h
          exact K _ _ _ hP hD hS (lv_sub hl [1] rfl)
        · have h := it_n c_95 h
          refine lv_lload hx hb dX1_totalThrough_181 (lv_at hl 1 rfl) ?_
          refine lv_aload_n hx hb dX1_totalThrough_183 rfl (lv_at hl 2 rfl) ?_
          refine va_get (D := D) (ci := 0) (v := .ref sums1a) (C := RX1) (T := TX1) (N := 8) hx hb hts hinX1 hown hK.1 hP 0 rfl rfl 4 (by decide) hw3 (fun _ h9 => h9) rfl dX1_totalThrough_184 ?_
          refine lv_iload hx hb dX1_totalThrough_187 (lv_at hl 0 rfl) ?_
          obtain ⟨hi_96, h⟩ := gA_s h
          refine va_lald hx hb hK.1 hP 5 1 rfl rfl hi_96 dX1_totalThrough_189 ?_
          refine lv_topl (fun v_97 ev_97 => ?_)
          have h := h v_97 ev_97
          refine lv_ladd hx hb dX1_totalThrough_190 ?_
          refine lv_topl (fun j4_98 ej4_98 => ?_)
          have h := nm_s h j4_98 ej4_98
          refine lv_lstore (lv' := [(4, .long j4_98), (6, .int y6_91), (0, .ref h1)]) hx hb dX1_totalThrough_191 hl (by decide) rfl (fun ls hl => ?_)
          obtain ⟨x6_99, ex6_99⟩ : ∃ z : Int32, z = y6_91 + 1 := ⟨_, rfl⟩
          have h := nm_s h x6_99 ex6_99
          refine lv_iinc (v := x6_99) (lv' := [(6, .int x6_99), (4, .long j4_98), (0, .ref h1)]) hx hb dX1_totalThrough_193 hl (k := 1) rfl (by rw [ex6_99]; rfl) (by decide) rfl (fun ls hl => ?_)
          refine lv_goto (tgt := 175) hx hb dX1_totalThrough_196 (by decide) ?_
          exact ih _ _ _ _ h _ _ _ hP hD hS (lv_sub hl [0, 1, 2] rfl) K
    obtain ⟨⟨z6_100, z4_101⟩, hl_102, h⟩ := bd_s h
    refine L175 FU x6_90 j4_89 _ _ hl_102 _ _ _ hP hD hS (lv_sub hl [0, 1, 2] rfl) (fun H locs ls hP hD hS hl => ?_)
    refine lv_lload hx hb dX1_totalThrough_199 (lv_at hl 0 rfl) ?_
    cases h
    exact hret _ _ _ _ hP hD hS dX1_totalThrough_201
  · have h := it_p c_3 h
    refine lv_lconst (v := 0) hx hb dX1_totalThrough_9 (by decide) ?_
    cases h
    exact hret _ _ _ _ hP hD hS dX1_totalThrough_10
def f_X1_totalOf (i1 : Int32) (weights1 : Nat → Int32) (signs1 : Nat → Int32) (lengths1 : Nat → Int32) (sums1 : Nat → Int64) (nextSums1 : Nat → Int64) : Option (Int64 × (Nat → Int64) × (Nat → Int64)) :=
  Option.bind (f_X1_totalThrough i1 (-1) (-1) weights1 signs1 lengths1 sums1 nextSums1) fun (rj_1, sums1_2, nextSums1_3) =>
  some (rj_1, sums1_2, nextSums1_3)
set_option maxHeartbeats 4000000 in
set_option maxRecDepth 100000 in
theorem c_X1_totalOf (l : Launch) (D : va_G) (cI cJ : ClassId) (h1 weights1a freshWeights1a signs1a lengths1a sums1a nextSums1a bestFrom1a bestPath1a : Nat) (weights1 : Nat → Int32) (freshWeights1 : Nat → Int32) (signs1 : Nat → Int32) (lengths1 : Nat → Int32) (sums1 : Nat → Int64) (nextSums1 : Nat → Int64) (bestFrom1 : Nat → Int64) (bestPath1 : Nat → Int32) (i1 : Int32) (ret9 : Int64) (sums1z : Nat → Int64) (nextSums1z : Nat → Int64) (h : f_X1_totalOf i1 weights1 signs1 lengths1 sums1 nextSums1 = some (ret9, sums1z, nextSums1z)) : CL l D cI cJ yX1_totalOf wsX1_totalOf 3 71 [.ref h1, .int i1] (w1 cI cJ h1 weights1a freshWeights1a signs1a lengths1a sums1a nextSums1a bestFrom1a bestPath1a weights1 freshWeights1 signs1 lengths1 sums1 nextSums1 bestFrom1 bestPath1) (w1 cI cJ h1 weights1a freshWeights1a signs1a lengths1a sums1a nextSums1a bestFrom1a bestPath1a weights1 freshWeights1 signs1 lengths1 sums1z nextSums1z bestFrom1 bestPath1) ret9 := by
  refine entL (cc := cX1_totalOf) (maxL := 2) (by decide) rfl (Nat.le_of_ble_eq_true rfl) ?_
  intro p e s m args below meth c ls A Q X hret
  obtain ⟨hx, hb, hml, hts, hown, hK, hA, hP, hD, hS, hl, hnm⟩ := X
  have hown : s.vm.findClass RX1 = some m.cls := hown
  have hl : lv_has ls 2 [(0, .ref h1), (1, .int i1)] := hl
  unfold f_X1_totalOf at h
  refine lv_aload_n hx hb dX1_totalOf_0 rfl (lv_at hl 0 rfl) ?_
  refine lv_iload_n hx hb dX1_totalOf_1 rfl (lv_at hl 1 rfl) ?_
  refine lv_iconst (v := (-1)) hx hb dX1_totalOf_2 (by decide) ?_
  refine lv_iconst (v := (-1)) hx hb dX1_totalOf_3 (by decide) ?_
  obtain ⟨⟨rj_1, sums1_2, nextSums1_3⟩, hc_4, h⟩ := bd_s h
  refine callTl (As := [.int i1, .int (-1), .int (-1)]) (rest := []) ⟨hx, hb, hml, hown, hts⟩ (c_X1_totalThrough l D cI cJ h1 weights1a freshWeights1a signs1a lengths1a sums1a nextSums1a bestFrom1a bestPath1a weights1 freshWeights1 signs1 lengths1 sums1 nextSums1 bestFrom1 bestPath1 i1 (-1) (-1) rj_1 sums1_2 nextSums1_3 hc_4) (cwV 3 hts gX1_totalOf_X1_totalThrough rfl rfl rfl (by decide +kernel) ⟨Nat.le_of_ble_eq_true rfl, Nat.le_of_ble_eq_true rfl⟩) hK hP hD hS hA 0 0 rfl rfl rfl rfl hl.1 rfl (Nat.le_of_ble_eq_true rfl) dX1_totalOf_4 ⟨Nat.zero_le _, Nat.zero_le _⟩ (fun H locs hP hD hS => ?_)
  cases h
  exact hret _ _ _ _ hP hD hS dX1_totalOf_7
def f_X1_countBestPath_L17 (i1 : Int32) (signs1 : Nat → Int32) (lengths1 : Nat → Int32) (bestPath1 : Nat → Int32) : Nat → Int32 → (Nat → Int32) → Option (Int32 × (Nat → Int32))
  | 0, _, _ => none
  | n + 1, y2_8, freshWeights1_9 =>
  gA 4 lengths1 i1 fun v_13 =>
  if v_13 ≤ y2_8 then
    some (y2_8, freshWeights1_9)
  else
    gA 5 bestPath1 y2_8 fun v_16 =>
    gA 20 signs1 ((i1 * 5) + y2_8) fun v_18 =>
    Option.bind (f_X1_showAt v_16 v_18) fun r_19 =>
    gA 36 freshWeights1_9 r_19 fun v_22 =>
    sI 36 freshWeights1_9 r_19 (v_22 + 1) fun freshWeights1_24 =>
    if y2_8 ≤ 0 then
      nm (α := Int32) (y2_8 + 1) fun x2_26 =>
      f_X1_countBestPath_L17 i1 signs1 lengths1 bestPath1 n x2_26 freshWeights1_24
    else
      gA 5 bestPath1 (y2_8 - 1) fun v_28 =>
      gA 5 bestPath1 y2_8 fun v_30 =>
      Option.bind (f_X1_moveAt v_28 v_30) fun r_31 =>
      gA 36 freshWeights1_24 r_31 fun v_34 =>
      sI 36 freshWeights1_24 r_31 (v_34 + 1) fun freshWeights1_36 =>
      nm (α := Int32) (y2_8 + 1) fun x2_37 =>
      f_X1_countBestPath_L17 i1 signs1 lengths1 bestPath1 n x2_37 freshWeights1_36
def f_X1_countBestPath (i1 : Int32) (freshWeights1 : Nat → Int32) (signs1 : Nat → Int32) (lengths1 : Nat → Int32) (bestPath1 : Nat → Int32) : Option ((Nat → Int32)) :=
  gA 5 bestPath1 0 fun v_2 =>
  gA 36 freshWeights1 v_2 fun v_4 =>
  sI 36 freshWeights1 v_2 (v_4 + 1) fun freshWeights1_6 =>
  nm (α := Int32) (0) fun x2_7 =>
  Option.bind (f_X1_countBestPath_L17 i1 signs1 lengths1 bestPath1 FU x2_7 freshWeights1_6) fun (z2_38, freshWeights1_39) =>
  some freshWeights1_39
set_option maxHeartbeats 4000000 in
set_option maxRecDepth 100000 in
theorem c_X1_countBestPath (l : Launch) (D : va_G) (cI cJ : ClassId) (h1 weights1a freshWeights1a signs1a lengths1a sums1a nextSums1a bestFrom1a bestPath1a : Nat) (weights1 : Nat → Int32) (freshWeights1 : Nat → Int32) (signs1 : Nat → Int32) (lengths1 : Nat → Int32) (sums1 : Nat → Int64) (nextSums1 : Nat → Int64) (bestFrom1 : Nat → Int64) (bestPath1 : Nat → Int32) (i1 : Int32) (freshWeights1z : Nat → Int32) (h : f_X1_countBestPath i1 freshWeights1 signs1 lengths1 bestPath1 = some freshWeights1z) : CV l D cI cJ yX1_countBestPath wsX1_countBestPath 1 21 [.ref h1, .int i1] (w1 cI cJ h1 weights1a freshWeights1a signs1a lengths1a sums1a nextSums1a bestFrom1a bestPath1a weights1 freshWeights1 signs1 lengths1 sums1 nextSums1 bestFrom1 bestPath1) (w1 cI cJ h1 weights1a freshWeights1a signs1a lengths1a sums1a nextSums1a bestFrom1a bestPath1a weights1 freshWeights1z signs1 lengths1 sums1 nextSums1 bestFrom1 bestPath1) := by
  refine entV (cc := cX1_countBestPath) (maxL := 3) (by decide) rfl (Nat.le_of_ble_eq_true rfl) ?_
  intro p e s m args below meth c ls A Q X hret
  obtain ⟨hx, hb, hml, hts, hown, hK, hA, hP, hD, hS, hl, hnm⟩ := X
  have hown : s.vm.findClass RX1 = some m.cls := hown
  have hl : lv_has ls 3 [(0, .ref h1), (1, .int i1)] := hl
  have hw1 : (Cond.fieldLink RX1 15 "CountLearners$HiddenStates" "freshWeights" "[I").before args s = true := hts _ (by decide +kernel)
  have hinX1 : ∀ w ∈ wsX10, w ∈ wsX1_countBestPath := by decide +kernel
  have hw3 : (Cond.fieldLink RX1 34 "CountLearners$HiddenStates" "bestPath" "[I").before args s = true := hts _ (by decide +kernel)
  have hw4 : (Cond.fieldLink RX1 21 "CountLearners$HiddenStates" "lengths" "[I").before args s = true := hts _ (by decide +kernel)
  have hw5 : (Cond.fieldLink RX1 18 "CountLearners$HiddenStates" "signs" "[I").before args s = true := hts _ (by decide +kernel)
  unfold f_X1_countBestPath at h
  refine lv_aload_n hx hb dX1_countBestPath_0 rfl (lv_at hl 0 rfl) ?_
  refine va_get (D := D) (ci := 0) (v := .ref freshWeights1a) (C := RX1) (T := TX1) (N := 8) hx hb hts hinX1 hown hK.1 hP 0 rfl rfl 1 (by decide) hw1 (fun _ h9 => h9) rfl dX1_countBestPath_1 ?_
  refine lv_aload_n hx hb dX1_countBestPath_4 rfl (lv_at hl 0 rfl) ?_
  refine va_get (D := D) (ci := 0) (v := .ref bestPath1a) (C := RX1) (T := TX1) (N := 8) hx hb hts hinX1 hown hK.1 hP 0 rfl rfl 7 (by decide) hw3 (fun _ h9 => h9) rfl dX1_countBestPath_5 ?_
  refine lv_iconst (v := 0) hx hb dX1_countBestPath_8 (by decide) ?_
  obtain ⟨hi_1, h⟩ := gA_s h
  refine va_iald hx hb hK.1 hP 8 0 rfl rfl hi_1 dX1_countBestPath_9 ?_
  refine lv_topi (fun v_2 ev_2 => ?_)
  have h := h v_2 ev_2
  refine lv_dup2_11 hx hb dX1_countBestPath_10 rfl rfl ?_
  obtain ⟨hi_3, h⟩ := gA_s h
  refine va_iald hx hb hK.1 hP 2 0 rfl rfl hi_3 dX1_countBestPath_11 ?_
  refine lv_topi (fun v_4 ev_4 => ?_)
  have h := h v_4 ev_4
  refine lv_iconst (v := 1) hx hb dX1_countBestPath_12 (by decide) ?_
  refine lv_iadd hx hb dX1_countBestPath_13 ?_
  obtain ⟨hi_5, h⟩ := sI_s h
  refine va_iast hx hb hK.1 hP hD hS 2 0 rfl rfl hi_5 dX1_countBestPath_14 (fun H locs hP hD hS => ?_)
  obtain ⟨freshWeights1_6, efreshWeights1_6⟩ : ∃ z, z = upd freshWeights1 (Int32.toNatClampNeg v_2) (v_4 + 1) := ⟨_, rfl⟩
  have h := h freshWeights1_6 efreshWeights1_6
  rw [← efreshWeights1_6] at hP hD
  have hP : va_P D vwK (w1 cI cJ h1 weights1a freshWeights1a signs1a lengths1a sums1a nextSums1a bestFrom1a bestPath1a weights1 freshWeights1_6 signs1 lengths1 sums1 nextSums1 bestFrom1 bestPath1) H := hP
  have hD : va_D A (w1 cI cJ h1 weights1a freshWeights1a signs1a lengths1a sums1a nextSums1a bestFrom1a bestPath1a weights1 freshWeights1_6 signs1 lengths1 sums1 nextSums1 bestFrom1 bestPath1) := hD
  refine lv_iconst (v := 0) hx hb dX1_countBestPath_15 (by decide) ?_
  refine lv_topi (fun x2_7 ex2_7 => ?_)
  have h := nm_s h x2_7 ex2_7
  refine lv_istore_n (lv' := [(2, .int x2_7), (0, .ref h1), (1, .int i1)]) hx hb dX1_countBestPath_16 rfl hl (by decide) rfl (fun ls hl => ?_)
  have L17 : ∀ (n : Nat) (y2_8 : Int32) (freshWeights1_9 : Nat → Int32) (z2_10 : Int32) (freshWeights1_11 : Nat → Int32), f_X1_countBestPath_L17 i1 signs1 lengths1 bestPath1 n y2_8 freshWeights1_9 = some (z2_10, freshWeights1_11) → ∀ (H : Heap) (locs : List Loc) (ls : Array Slot), va_P D vwK (w1 cI cJ h1 weights1a freshWeights1a signs1a lengths1a sums1a nextSums1a bestFrom1a bestPath1a weights1 freshWeights1_9 signs1 lengths1 sums1 nextSums1 bestFrom1 bestPath1) H → va_D A (w1 cI cJ h1 weights1a freshWeights1a signs1a lengths1a sums1a nextSums1a bestFrom1a bestPath1a weights1 freshWeights1_9 signs1 lengths1 sums1 nextSums1 bestFrom1 bestPath1) → va_S A s.heap H locs → lv_has ls 3 [(2, .int y2_8), (0, .ref h1), (1, .int i1)] → (∀ (H : Heap) (locs : List Loc) (ls : Array Slot), va_P D vwK (w1 cI cJ h1 weights1a freshWeights1a signs1a lengths1a sums1a nextSums1a bestFrom1a bestPath1a weights1 freshWeights1_11 signs1 lengths1 sums1 nextSums1 bestFrom1 bestPath1) H → va_D A (w1 cI cJ h1 weights1a freshWeights1a signs1a lengths1a sums1a nextSums1a bestFrom1a bestPath1a weights1 freshWeights1_11 signs1 lengths1 sums1 nextSums1 bestFrom1 bestPath1) → va_S A s.heap H locs → lv_has ls 3 [] → W p l e (rmOf 1 21) s m args below meth c H locs 0 0 Q (F0 m 91 ls [])) → W p l e (rmOf 1 21) s m args below meth c H locs 0 0 Q (F0 m 17 ls []) := by
    intro n
    induction n with
    | zero => intro y2_8 freshWeights1_9 z2_10 freshWeights1_11 h; rw [f_X1_countBestPath_L17.eq_1] at h; cases h
    | succ n ih =>
      intro y2_8 freshWeights1_9 z2_10 freshWeights1_11 h H locs ls hP hD hS hl K
      rw [f_X1_countBestPath_L17.eq_2] at h
      refine lv_iload_n hx hb dX1_countBestPath_17 rfl (lv_at hl 0 rfl) ?_
      refine lv_aload_n hx hb dX1_countBestPath_18 rfl (lv_at hl 1 rfl) ?_
      refine va_get (D := D) (ci := 0) (v := .ref lengths1a) (C := RX1) (T := TX1) (N := 8) hx hb hts hinX1 hown hK.1 hP 0 rfl rfl 3 (by decide) hw4 (fun _ h9 => h9) rfl dX1_countBestPath_19 ?_
      refine lv_iload_n hx hb dX1_countBestPath_22 rfl (lv_at hl 2 rfl) ?_
      obtain ⟨hi_12, h⟩ := gA_s h
      refine va_iald hx hb hK.1 hP 4 0 rfl rfl hi_12 dX1_countBestPath_23 ?_
      refine lv_topi (fun v_13 ev_13 => ?_)
      have h := h v_13 ev_13
      refine lv_icmp_ge (tgt := 91) hx hb dX1_countBestPath_24 (by decide) (fun c_14 => ?_) (fun c_14 => ?_)
      · have h := it_p c_14 h
        cases h
        exact K _ _ _ hP hD hS (lv_sub hl [] rfl)
      · have h := it_n c_14 h
        refine lv_aload_n hx hb dX1_countBestPath_27 rfl (lv_at hl 1 rfl) ?_
        refine va_get (D := D) (ci := 0) (v := .ref freshWeights1a) (C := RX1) (T := TX1) (N := 8) hx hb hts hinX1 hown hK.1 hP 0 rfl rfl 1 (by decide) hw1 (fun _ h9 => h9) rfl dX1_countBestPath_28 ?_
        refine lv_aload_n hx hb dX1_countBestPath_31 rfl (lv_at hl 1 rfl) ?_
        refine va_get (D := D) (ci := 0) (v := .ref bestPath1a) (C := RX1) (T := TX1) (N := 8) hx hb hts hinX1 hown hK.1 hP 0 rfl rfl 7 (by decide) hw3 (fun _ h9 => h9) rfl dX1_countBestPath_32 ?_
        refine lv_iload_n hx hb dX1_countBestPath_35 rfl (lv_at hl 0 rfl) ?_
        obtain ⟨hi_15, h⟩ := gA_s h
        refine va_iald hx hb hK.1 hP 8 0 rfl rfl hi_15 dX1_countBestPath_36 ?_
        refine lv_topi (fun v_16 ev_16 => ?_)
        have h := h v_16 ev_16
        refine lv_aload_n hx hb dX1_countBestPath_37 rfl (lv_at hl 1 rfl) ?_
        refine va_get (D := D) (ci := 0) (v := .ref signs1a) (C := RX1) (T := TX1) (N := 8) hx hb hts hinX1 hown hK.1 hP 0 rfl rfl 2 (by decide) hw5 (fun _ h9 => h9) rfl dX1_countBestPath_38 ?_
        refine lv_iload_n hx hb dX1_countBestPath_41 rfl (lv_at hl 2 rfl) ?_
        refine lv_iconst (v := 5) hx hb dX1_countBestPath_42 (by decide) ?_
        refine lv_imul hx hb dX1_countBestPath_43 ?_
        refine lv_iload_n hx hb dX1_countBestPath_44 rfl (lv_at hl 0 rfl) ?_
        refine lv_iadd hx hb dX1_countBestPath_45 ?_
        obtain ⟨hi_17, h⟩ := gA_s h
        refine va_iald hx hb hK.1 hP 3 0 rfl rfl hi_17 dX1_countBestPath_46 ?_
        refine lv_topi (fun v_18 ev_18 => ?_)
        have h := h v_18 ev_18
        obtain ⟨r_19, hc_20, h⟩ := bd_s h
        refine callPi (As := [.int v_16, .int v_18]) (rest := [.ref freshWeights1a]) ⟨hx, hb, hml, hown, hts⟩ (c_X1_showAt l D cI cJ v_16 v_18 r_19 hc_20) (va_cwS 2 hts gX1_countBestPath_X1_showAt rfl rfl rfl (by decide +kernel) ⟨Nat.le_of_ble_eq_true rfl, Nat.le_of_ble_eq_true rfl⟩) hK hP hD hS hA rfl hl.1 rfl (Nat.le_of_ble_eq_true rfl) dX1_countBestPath_47 ⟨Nat.zero_le _, Nat.zero_le _⟩ (fun H locs hP hD hS => ?_)
        refine lv_dup2_11 hx hb dX1_countBestPath_50 rfl rfl ?_
        obtain ⟨hi_21, h⟩ := gA_s h
        refine va_iald hx hb hK.1 hP 2 0 rfl rfl hi_21 dX1_countBestPath_51 ?_
        refine lv_topi (fun v_22 ev_22 => ?_)
        have h := h v_22 ev_22
        refine lv_iconst (v := 1) hx hb dX1_countBestPath_52 (by decide) ?_
        refine lv_iadd hx hb dX1_countBestPath_53 ?_
        obtain ⟨hi_23, h⟩ := sI_s h
        refine va_iast hx hb hK.1 hP hD hS 2 0 rfl rfl hi_23 dX1_countBestPath_54 (fun H locs hP hD hS => ?_)
        obtain ⟨freshWeights1_24, efreshWeights1_24⟩ : ∃ z, z = upd freshWeights1_9 (Int32.toNatClampNeg r_19) (v_22 + 1) := ⟨_, rfl⟩
        have h := h freshWeights1_24 efreshWeights1_24
        rw [← efreshWeights1_24] at hP hD
        have hP : va_P D vwK (w1 cI cJ h1 weights1a freshWeights1a signs1a lengths1a sums1a nextSums1a bestFrom1a bestPath1a weights1 freshWeights1_24 signs1 lengths1 sums1 nextSums1 bestFrom1 bestPath1) H := hP
        have hD : va_D A (w1 cI cJ h1 weights1a freshWeights1a signs1a lengths1a sums1a nextSums1a bestFrom1a bestPath1a weights1 freshWeights1_24 signs1 lengths1 sums1 nextSums1 bestFrom1 bestPath1) := hD
        refine lv_iload_n hx hb dX1_countBestPath_55 rfl (lv_at hl 0 rfl) ?_
        refine lv_if_le (tgt := 85) hx hb dX1_countBestPath_56 (by decide) (fun c_25 => ?_) (fun c_25 => ?_)
        · have h := it_p c_25 h
          obtain ⟨x2_26, ex2_26⟩ : ∃ z : Int32, z = y2_8 + 1 := ⟨_, rfl⟩
          have h := nm_s h x2_26 ex2_26
          refine lv_iinc (v := x2_26) (lv' := [(2, .int x2_26), (0, .ref h1), (1, .int i1)]) hx hb dX1_countBestPath_85 hl (k := 0) rfl (by rw [ex2_26]; rfl) (by decide) rfl (fun ls hl => ?_)
          refine lv_goto (tgt := 17) hx hb dX1_countBestPath_88 (by decide) ?_
          exact ih _ _ _ _ h _ _ _ hP hD hS (lv_sub hl [0, 1, 2] rfl) K
        · have h := it_n c_25 h
          refine lv_aload_n hx hb dX1_countBestPath_59 rfl (lv_at hl 1 rfl) ?_
          refine va_get (D := D) (ci := 0) (v := .ref freshWeights1a) (C := RX1) (T := TX1) (N := 8) hx hb hts hinX1 hown hK.1 hP 0 rfl rfl 1 (by decide) hw1 (fun _ h9 => h9) rfl dX1_countBestPath_60 ?_
          refine lv_aload_n hx hb dX1_countBestPath_63 rfl (lv_at hl 1 rfl) ?_
          refine va_get (D := D) (ci := 0) (v := .ref bestPath1a) (C := RX1) (T := TX1) (N := 8) hx hb hts hinX1 hown hK.1 hP 0 rfl rfl 7 (by decide) hw3 (fun _ h9 => h9) rfl dX1_countBestPath_64 ?_
          refine lv_iload_n hx hb dX1_countBestPath_67 rfl (lv_at hl 0 rfl) ?_
          refine lv_iconst (v := 1) hx hb dX1_countBestPath_68 (by decide) ?_
          refine lv_isub hx hb dX1_countBestPath_69 ?_
          obtain ⟨hi_27, h⟩ := gA_s h
          refine va_iald hx hb hK.1 hP 8 0 rfl rfl hi_27 dX1_countBestPath_70 ?_
          refine lv_topi (fun v_28 ev_28 => ?_)
          have h := h v_28 ev_28
          refine lv_aload_n hx hb dX1_countBestPath_71 rfl (lv_at hl 1 rfl) ?_
          refine va_get (D := D) (ci := 0) (v := .ref bestPath1a) (C := RX1) (T := TX1) (N := 8) hx hb hts hinX1 hown hK.1 hP 0 rfl rfl 7 (by decide) hw3 (fun _ h9 => h9) rfl dX1_countBestPath_72 ?_
          refine lv_iload_n hx hb dX1_countBestPath_75 rfl (lv_at hl 0 rfl) ?_
          obtain ⟨hi_29, h⟩ := gA_s h
          refine va_iald hx hb hK.1 hP 8 0 rfl rfl hi_29 dX1_countBestPath_76 ?_
          refine lv_topi (fun v_30 ev_30 => ?_)
          have h := h v_30 ev_30
          obtain ⟨r_31, hc_32, h⟩ := bd_s h
          refine callPi (As := [.int v_28, .int v_30]) (rest := [.ref freshWeights1a]) ⟨hx, hb, hml, hown, hts⟩ (c_X1_moveAt l D cI cJ v_28 v_30 r_31 hc_32) (va_cwS 2 hts gX1_countBestPath_X1_moveAt rfl rfl rfl (by decide +kernel) ⟨Nat.le_of_ble_eq_true rfl, Nat.le_of_ble_eq_true rfl⟩) hK hP hD hS hA rfl hl.1 rfl (Nat.le_of_ble_eq_true rfl) dX1_countBestPath_77 ⟨Nat.zero_le _, Nat.zero_le _⟩ (fun H locs hP hD hS => ?_)
          refine lv_dup2_11 hx hb dX1_countBestPath_80 rfl rfl ?_
          obtain ⟨hi_33, h⟩ := gA_s h
          refine va_iald hx hb hK.1 hP 2 0 rfl rfl hi_33 dX1_countBestPath_81 ?_
          refine lv_topi (fun v_34 ev_34 => ?_)
          have h := h v_34 ev_34
          refine lv_iconst (v := 1) hx hb dX1_countBestPath_82 (by decide) ?_
          refine lv_iadd hx hb dX1_countBestPath_83 ?_
          obtain ⟨hi_35, h⟩ := sI_s h
          refine va_iast hx hb hK.1 hP hD hS 2 0 rfl rfl hi_35 dX1_countBestPath_84 (fun H locs hP hD hS => ?_)
          obtain ⟨freshWeights1_36, efreshWeights1_36⟩ : ∃ z, z = upd freshWeights1_24 (Int32.toNatClampNeg r_31) (v_34 + 1) := ⟨_, rfl⟩
          have h := h freshWeights1_36 efreshWeights1_36
          rw [← efreshWeights1_36] at hP hD
          have hP : va_P D vwK (w1 cI cJ h1 weights1a freshWeights1a signs1a lengths1a sums1a nextSums1a bestFrom1a bestPath1a weights1 freshWeights1_36 signs1 lengths1 sums1 nextSums1 bestFrom1 bestPath1) H := hP
          have hD : va_D A (w1 cI cJ h1 weights1a freshWeights1a signs1a lengths1a sums1a nextSums1a bestFrom1a bestPath1a weights1 freshWeights1_36 signs1 lengths1 sums1 nextSums1 bestFrom1 bestPath1) := hD
          obtain ⟨x2_37, ex2_37⟩ : ∃ z : Int32, z = y2_8 + 1 := ⟨_, rfl⟩
          have h := nm_s h x2_37 ex2_37
          refine lv_iinc (v := x2_37) (lv' := [(2, .int x2_37), (0, .ref h1), (1, .int i1)]) hx hb dX1_countBestPath_85 hl (k := 0) rfl (by rw [ex2_37]; rfl) (by decide) rfl (fun ls hl => ?_)
          refine lv_goto (tgt := 17) hx hb dX1_countBestPath_88 (by decide) ?_
          exact ih _ _ _ _ h _ _ _ hP hD hS (lv_sub hl [0, 1, 2] rfl) K
  obtain ⟨⟨z2_38, freshWeights1_39⟩, hl_40, h⟩ := bd_s h
  refine L17 FU x2_7 freshWeights1_6 _ _ hl_40 _ _ _ hP hD hS (lv_sub hl [0, 1, 2] rfl) (fun H locs ls hP hD hS hl => ?_)
  cases h
  exact hret _ _ _ _ hP hD hS dX1_countBestPath_91
def f_X1_weighAnew_L10 (weights1 : Nat → Int32) (signs1 : Nat → Int32) (lengths1 : Nat → Int32) : Nat → Int32 → (Nat → Int32) → (Nat → Int64) → (Nat → Int32) → Option (Int32 × (Nat → Int32) × (Nat → Int64) × (Nat → Int32))
  | 0, _, _, _, _ => none
  | n + 1, y1_4, freshWeights1_5, bestFrom1_6, bestPath1_7 =>
  if 4 ≤ y1_4 then
    some (y1_4, freshWeights1_5, bestFrom1_6, bestPath1_7)
  else
    Option.bind (f_X1_findBestPath y1_4 weights1 signs1 lengths1 bestFrom1_6 bestPath1_7) fun (r_13, bestFrom1_14, bestPath1_15) =>
    if r_13 = 0 then
      nm (α := Int32) (y1_4 + 1) fun x1_18 =>
      f_X1_weighAnew_L10 weights1 signs1 lengths1 n x1_18 freshWeights1_5 bestFrom1_14 bestPath1_15
    else
      Option.bind (f_X1_countBestPath y1_4 freshWeights1_5 signs1 lengths1 bestPath1_15) fun freshWeights1_19 =>
      nm (α := Int32) (y1_4 + 1) fun x1_21 =>
      f_X1_weighAnew_L10 weights1 signs1 lengths1 n x1_21 freshWeights1_19 bestFrom1_14 bestPath1_15
def f_X1_weighAnew_L38 (freshWeights1_23 : Nat → Int32) : Nat → Int32 → Int32 → (Nat → Int32) → Option (Int32 × Int32 × (Nat → Int32))
  | 0, _, _, _ => none
  | n + 1, y2_29, y1_30, weights1_31 =>
  if 36 ≤ y2_29 then
    some (y2_29, y1_30, weights1_31)
  else
    if y1_30 = 0 then
      gA 36 weights1_31 y2_29 fun v_44 =>
      gA 36 freshWeights1_23 y2_29 fun v_46 =>
      if v_44 = v_46 then
        nm (α := Int32) (0) fun x1_48 =>
        gA 36 freshWeights1_23 y2_29 fun v_50 =>
        sI 36 weights1_31 y2_29 v_50 fun weights1_52 =>
        nm (α := Int32) (y2_29 + 1) fun x2_53 =>
        f_X1_weighAnew_L38 freshWeights1_23 n x2_53 x1_48 weights1_52
      else
        nm (α := Int32) (1) fun x1_54 =>
        gA 36 freshWeights1_23 y2_29 fun v_56 =>
        sI 36 weights1_31 y2_29 v_56 fun weights1_58 =>
        nm (α := Int32) (y2_29 + 1) fun x2_59 =>
        f_X1_weighAnew_L38 freshWeights1_23 n x2_59 x1_54 weights1_58
    else
      nm (α := Int32) (1) fun x1_37 =>
      gA 36 freshWeights1_23 y2_29 fun v_39 =>
      sI 36 weights1_31 y2_29 v_39 fun weights1_41 =>
      nm (α := Int32) (y2_29 + 1) fun x2_42 =>
      f_X1_weighAnew_L38 freshWeights1_23 n x2_42 x1_37 weights1_41
def f_X1_weighAnew (weights1 : Nat → Int32) (freshWeights1 : Nat → Int32) (signs1 : Nat → Int32) (lengths1 : Nat → Int32) (bestFrom1 : Nat → Int64) (bestPath1 : Nat → Int32) : Option (Int32 × (Nat → Int32) × (Nat → Int32) × (Nat → Int64) × (Nat → Int32)) :=
  Option.bind (f_X5_setAll 36 freshWeights1 1) fun freshWeights1_1 =>
  nm (α := Int32) (0) fun x1_3 =>
  Option.bind (f_X1_weighAnew_L10 weights1 signs1 lengths1 FU x1_3 freshWeights1_1 bestFrom1 bestPath1) fun (z1_22, freshWeights1_23, bestFrom1_24, bestPath1_25) =>
  nm (α := Int32) (0) fun x1_27 =>
  nm (α := Int32) (0) fun x2_28 =>
  Option.bind (f_X1_weighAnew_L38 freshWeights1_23 FU x2_28 x1_27 weights1) fun (z2_60, z1_61, weights1_62) =>
  bz z1_61 <|
  some (z1_61, weights1_62, freshWeights1_23, bestFrom1_24, bestPath1_25)
set_option maxHeartbeats 4000000 in
set_option maxRecDepth 100000 in
theorem c_X1_weighAnew (l : Launch) (D : va_G) (cI cJ : ClassId) (h1 weights1a freshWeights1a signs1a lengths1a sums1a nextSums1a bestFrom1a bestPath1a : Nat) (weights1 : Nat → Int32) (freshWeights1 : Nat → Int32) (signs1 : Nat → Int32) (lengths1 : Nat → Int32) (sums1 : Nat → Int64) (nextSums1 : Nat → Int64) (bestFrom1 : Nat → Int64) (bestPath1 : Nat → Int32) (ret9 : Int32) (weights1z : Nat → Int32) (freshWeights1z : Nat → Int32) (bestFrom1z : Nat → Int64) (bestPath1z : Nat → Int32) (h : f_X1_weighAnew weights1 freshWeights1 signs1 lengths1 bestFrom1 bestPath1 = some (ret9, weights1z, freshWeights1z, bestFrom1z, bestPath1z)) : CI l D cI cJ yX1_weighAnew wsX1_weighAnew 4 94 [.ref h1] (w1 cI cJ h1 weights1a freshWeights1a signs1a lengths1a sums1a nextSums1a bestFrom1a bestPath1a weights1 freshWeights1 signs1 lengths1 sums1 nextSums1 bestFrom1 bestPath1) (w1 cI cJ h1 weights1a freshWeights1a signs1a lengths1a sums1a nextSums1a bestFrom1a bestPath1a weights1z freshWeights1z signs1 lengths1 sums1 nextSums1 bestFrom1z bestPath1z) ret9 := by
  refine entZ (cc := cX1_weighAnew) (maxL := 3) (by decide) rfl (Nat.le_of_ble_eq_true rfl) ?_
  intro p e s m args below meth c ls A Q X hret
  obtain ⟨hx, hb, hml, hts, hown, hK, hA, hP, hD, hS, hl, hnm⟩ := X
  have hown : s.vm.findClass RX1 = some m.cls := hown
  have hl : lv_has ls 3 [(0, .ref h1)] := hl
  have hw1 : (Cond.fieldLink RX1 15 "CountLearners$HiddenStates" "freshWeights" "[I").before args s = true := hts _ (by decide +kernel)
  have hinX1 : ∀ w ∈ wsX10, w ∈ wsX1_weighAnew := by decide +kernel
  have hw3 : (Cond.initialized RX5).before args s = true := hts _ (by decide +kernel)
  have hw4 : (Cond.static yX5_setAll).before args s = true := hts _ (by decide +kernel)
  have hw5 : (Cond.fieldLink RX1 11 "CountLearners$HiddenStates" "weights" "[I").before args s = true := hts _ (by decide +kernel)
  unfold f_X1_weighAnew at h
  refine lv_aload_n hx hb dX1_weighAnew_0 rfl (lv_at hl 0 rfl) ?_
  refine va_get (D := D) (ci := 0) (v := .ref freshWeights1a) (C := RX1) (T := TX1) (N := 8) hx hb hts hinX1 hown hK.1 hP 0 rfl rfl 1 (by decide) hw1 (fun _ h9 => h9) rfl dX1_weighAnew_1 ?_
  refine lv_iconst (v := 1) hx hb dX1_weighAnew_4 (by decide) ?_
  obtain ⟨freshWeights1_1, hc_2, h⟩ := bd_s h
  refine callNv (As := [.ref freshWeights1a, .int 1]) (rest := []) (ws2 := (w1 cI cJ h1 weights1a freshWeights1a signs1a lengths1a sums1a nextSums1a bestFrom1a bestPath1a weights1 freshWeights1_1 signs1 lengths1 sums1 nextSums1 bestFrom1 bestPath1)) ⟨hx, hb, hml, hown, hts⟩ (c_X5_setAll l D cI cJ freshWeights1a 36 freshWeights1 1 freshWeights1_1 hc_2) ⟨va_cnB 2 hts gX1_weighAnew_X5_setAll_n37 rfl rfl rfl hK.2.1 hw3 (by decide +kernel) ⟨Nat.le_of_ble_eq_true rfl, Nat.le_of_ble_eq_true rfl⟩, hw4, trivial⟩ hK hP hD hS hA [2] [0, 1, 3, 4, 5, 6, 7, 8] [0, 1, 8, 2, 3, 4, 5, 6, 7] ⟨[(h1, .inr (0, [.ref weights1a, .ref freshWeights1a, .ref signs1a, .ref lengths1a, .ref sums1a, .ref nextSums1a, .ref bestFrom1a, .ref bestPath1a])), (weights1a, .inl (cI, 36, .inl weights1)), (signs1a, .inl (cI, 20, .inl signs1)), (lengths1a, .inl (cI, 4, .inl lengths1)), (sums1a, .inl (cJ, 4, .inr (.inl sums1))), (nextSums1a, .inl (cJ, 4, .inr (.inl nextSums1))), (bestFrom1a, .inl (cJ, 20, .inr (.inl bestFrom1))), (bestPath1a, .inl (cI, 5, .inl bestPath1))], rfl, rfl, rfl, rfl, by decide, rfl, rfl⟩ rfl hl.1 rfl (Nat.le_of_ble_eq_true rfl) dX1_weighAnew_5 ⟨Nat.zero_le _, Nat.zero_le _⟩ (fun H locs hP hD hS => ?_)
  refine lv_iconst (v := 0) hx hb dX1_weighAnew_8 (by decide) ?_
  refine lv_topi (fun x1_3 ex1_3 => ?_)
  have h := nm_s h x1_3 ex1_3
  refine lv_istore_n (lv' := [(1, .int x1_3), (0, .ref h1)]) hx hb dX1_weighAnew_9 rfl hl (by decide) rfl (fun ls hl => ?_)
  have L10 : ∀ (n : Nat) (y1_4 : Int32) (freshWeights1_5 : Nat → Int32) (bestFrom1_6 : Nat → Int64) (bestPath1_7 : Nat → Int32) (z1_8 : Int32) (freshWeights1_9 : Nat → Int32) (bestFrom1_10 : Nat → Int64) (bestPath1_11 : Nat → Int32), f_X1_weighAnew_L10 weights1 signs1 lengths1 n y1_4 freshWeights1_5 bestFrom1_6 bestPath1_7 = some (z1_8, freshWeights1_9, bestFrom1_10, bestPath1_11) → ∀ (H : Heap) (locs : List Loc) (ls : Array Slot), va_P D vwK (w1 cI cJ h1 weights1a freshWeights1a signs1a lengths1a sums1a nextSums1a bestFrom1a bestPath1a weights1 freshWeights1_5 signs1 lengths1 sums1 nextSums1 bestFrom1_6 bestPath1_7) H → va_D A (w1 cI cJ h1 weights1a freshWeights1a signs1a lengths1a sums1a nextSums1a bestFrom1a bestPath1a weights1 freshWeights1_5 signs1 lengths1 sums1 nextSums1 bestFrom1_6 bestPath1_7) → va_S A s.heap H locs → lv_has ls 3 [(1, .int y1_4), (0, .ref h1)] → (∀ (H : Heap) (locs : List Loc) (ls : Array Slot), va_P D vwK (w1 cI cJ h1 weights1a freshWeights1a signs1a lengths1a sums1a nextSums1a bestFrom1a bestPath1a weights1 freshWeights1_9 signs1 lengths1 sums1 nextSums1 bestFrom1_10 bestPath1_11) H → va_D A (w1 cI cJ h1 weights1a freshWeights1a signs1a lengths1a sums1a nextSums1a bestFrom1a bestPath1a weights1 freshWeights1_9 signs1 lengths1 sums1 nextSums1 bestFrom1_10 bestPath1_11) → va_S A s.heap H locs → lv_has ls 3 [(0, .ref h1)] → W p l e (rmOf 4 94) s m args below meth c H locs 0 0 Q (F0 m 34 ls [])) → W p l e (rmOf 4 94) s m args below meth c H locs 0 0 Q (F0 m 10 ls []) := by
    intro n
    induction n with
    | zero => intro y1_4 freshWeights1_5 bestFrom1_6 bestPath1_7 z1_8 freshWeights1_9 bestFrom1_10 bestPath1_11 h; rw [f_X1_weighAnew_L10.eq_1] at h; cases h
    | succ n ih =>
      intro y1_4 freshWeights1_5 bestFrom1_6 bestPath1_7 z1_8 freshWeights1_9 bestFrom1_10 bestPath1_11 h H locs ls hP hD hS hl K
      rw [f_X1_weighAnew_L10.eq_2] at h
      refine lv_iload_n hx hb dX1_weighAnew_10 rfl (lv_at hl 0 rfl) ?_
      refine lv_iconst (v := 4) hx hb dX1_weighAnew_11 (by decide) ?_
      refine lv_icmp_ge (tgt := 34) hx hb dX1_weighAnew_12 (by decide) (fun c_12 => ?_) (fun c_12 => ?_)
      · have h := it_p c_12 h
        cases h
        exact K _ _ _ hP hD hS (lv_sub hl [1] rfl)
      · have h := it_n c_12 h
        refine lv_aload_n hx hb dX1_weighAnew_15 rfl (lv_at hl 1 rfl) ?_
        refine lv_iload_n hx hb dX1_weighAnew_16 rfl (lv_at hl 0 rfl) ?_
        obtain ⟨⟨r_13, bestFrom1_14, bestPath1_15⟩, hc_16, h⟩ := bd_s h
        refine callTi (As := [.int y1_4]) (rest := []) ⟨hx, hb, hml, hown, hts⟩ (c_X1_findBestPath l D cI cJ h1 weights1a freshWeights1a signs1a lengths1a sums1a nextSums1a bestFrom1a bestPath1a weights1 freshWeights1_5 signs1 lengths1 sums1 nextSums1 bestFrom1_6 bestPath1_7 y1_4 r_13 bestFrom1_14 bestPath1_15 hc_16) (cwV 1 hts gX1_weighAnew_X1_findBestPath rfl rfl rfl (by decide +kernel) ⟨Nat.le_of_ble_eq_true rfl, Nat.le_of_ble_eq_true rfl⟩) hK hP hD hS hA 0 0 rfl rfl rfl rfl hl.1 rfl (Nat.le_of_ble_eq_true rfl) dX1_weighAnew_17 ⟨Nat.zero_le _, Nat.zero_le _⟩ (fun H locs hP hD hS => ?_)
        refine lv_if_eq (tgt := 28) hx hb dX1_weighAnew_20 (by decide) (fun c_17 => ?_) (fun c_17 => ?_)
        · have h := it_p c_17 h
          obtain ⟨x1_18, ex1_18⟩ : ∃ z : Int32, z = y1_4 + 1 := ⟨_, rfl⟩
          have h := nm_s h x1_18 ex1_18
          refine lv_iinc (v := x1_18) (lv' := [(1, .int x1_18), (0, .ref h1)]) hx hb dX1_weighAnew_28 hl (k := 0) rfl (by rw [ex1_18]; rfl) (by decide) rfl (fun ls hl => ?_)
          refine lv_goto (tgt := 10) hx hb dX1_weighAnew_31 (by decide) ?_
          exact ih _ _ _ _ _ _ _ _ h _ _ _ hP hD hS (lv_sub hl [0, 1] rfl) K
        · have h := it_n c_17 h
          refine lv_aload_n hx hb dX1_weighAnew_23 rfl (lv_at hl 1 rfl) ?_
          refine lv_iload_n hx hb dX1_weighAnew_24 rfl (lv_at hl 0 rfl) ?_
          obtain ⟨freshWeights1_19, hc_20, h⟩ := bd_s h
          refine callTv (As := [.int y1_4]) (rest := []) ⟨hx, hb, hml, hown, hts⟩ (c_X1_countBestPath l D cI cJ h1 weights1a freshWeights1a signs1a lengths1a sums1a nextSums1a bestFrom1a bestPath1a weights1 freshWeights1_5 signs1 lengths1 sums1 nextSums1 bestFrom1_14 bestPath1_15 y1_4 freshWeights1_19 hc_20) (cwV 1 hts gX1_weighAnew_X1_countBestPath rfl rfl rfl (by decide +kernel) ⟨Nat.le_of_ble_eq_true rfl, Nat.le_of_ble_eq_true rfl⟩) hK hP hD hS hA 0 0 rfl rfl rfl rfl hl.1 rfl (Nat.le_of_ble_eq_true rfl) dX1_weighAnew_25 ⟨Nat.zero_le _, Nat.zero_le _⟩ (fun H locs hP hD hS => ?_)
          obtain ⟨x1_21, ex1_21⟩ : ∃ z : Int32, z = y1_4 + 1 := ⟨_, rfl⟩
          have h := nm_s h x1_21 ex1_21
          refine lv_iinc (v := x1_21) (lv' := [(1, .int x1_21), (0, .ref h1)]) hx hb dX1_weighAnew_28 hl (k := 0) rfl (by rw [ex1_21]; rfl) (by decide) rfl (fun ls hl => ?_)
          refine lv_goto (tgt := 10) hx hb dX1_weighAnew_31 (by decide) ?_
          exact ih _ _ _ _ _ _ _ _ h _ _ _ hP hD hS (lv_sub hl [0, 1] rfl) K
  obtain ⟨⟨z1_22, freshWeights1_23, bestFrom1_24, bestPath1_25⟩, hl_26, h⟩ := bd_s h
  refine L10 FU x1_3 freshWeights1_1 bestFrom1 bestPath1 _ _ _ _ hl_26 _ _ _ hP hD hS (lv_sub hl [0, 1] rfl) (fun H locs ls hP hD hS hl => ?_)
  refine lv_iconst (v := 0) hx hb dX1_weighAnew_34 (by decide) ?_
  refine lv_topi (fun x1_27 ex1_27 => ?_)
  have h := nm_s h x1_27 ex1_27
  refine lv_istore_n (lv' := [(1, .int x1_27), (0, .ref h1)]) hx hb dX1_weighAnew_35 rfl hl (by decide) rfl (fun ls hl => ?_)
  refine lv_iconst (v := 0) hx hb dX1_weighAnew_36 (by decide) ?_
  refine lv_topi (fun x2_28 ex2_28 => ?_)
  have h := nm_s h x2_28 ex2_28
  refine lv_istore_n (lv' := [(2, .int x2_28), (1, .int x1_27), (0, .ref h1)]) hx hb dX1_weighAnew_37 rfl hl (by decide) rfl (fun ls hl => ?_)
  have L38 : ∀ (n : Nat) (y2_29 : Int32) (y1_30 : Int32) (weights1_31 : Nat → Int32) (z2_32 : Int32) (z1_33 : Int32) (weights1_34 : Nat → Int32), f_X1_weighAnew_L38 freshWeights1_23 n y2_29 y1_30 weights1_31 = some (z2_32, z1_33, weights1_34) → ∀ (H : Heap) (locs : List Loc) (ls : Array Slot), va_P D vwK (w1 cI cJ h1 weights1a freshWeights1a signs1a lengths1a sums1a nextSums1a bestFrom1a bestPath1a weights1_31 freshWeights1_23 signs1 lengths1 sums1 nextSums1 bestFrom1_24 bestPath1_25) H → va_D A (w1 cI cJ h1 weights1a freshWeights1a signs1a lengths1a sums1a nextSums1a bestFrom1a bestPath1a weights1_31 freshWeights1_23 signs1 lengths1 sums1 nextSums1 bestFrom1_24 bestPath1_25) → va_S A s.heap H locs → lv_has ls 3 [(2, .int y2_29), (1, .int y1_30), (0, .ref h1)] → (∀ (H : Heap) (locs : List Loc) (ls : Array Slot), va_P D vwK (w1 cI cJ h1 weights1a freshWeights1a signs1a lengths1a sums1a nextSums1a bestFrom1a bestPath1a weights1_34 freshWeights1_23 signs1 lengths1 sums1 nextSums1 bestFrom1_24 bestPath1_25) H → va_D A (w1 cI cJ h1 weights1a freshWeights1a signs1a lengths1a sums1a nextSums1a bestFrom1a bestPath1a weights1_34 freshWeights1_23 signs1 lengths1 sums1 nextSums1 bestFrom1_24 bestPath1_25) → va_S A s.heap H locs → lv_has ls 3 [(1, .int z1_33)] → W p l e (rmOf 4 94) s m args below meth c H locs 0 0 Q (F0 m 87 ls [])) → W p l e (rmOf 4 94) s m args below meth c H locs 0 0 Q (F0 m 38 ls []) := by
    intro n
    induction n with
    | zero => intro y2_29 y1_30 weights1_31 z2_32 z1_33 weights1_34 h; rw [f_X1_weighAnew_L38.eq_1] at h; cases h
    | succ n ih =>
      intro y2_29 y1_30 weights1_31 z2_32 z1_33 weights1_34 h H locs ls hP hD hS hl K
      rw [f_X1_weighAnew_L38.eq_2] at h
      refine lv_iload_n hx hb dX1_weighAnew_38 rfl (lv_at hl 0 rfl) ?_
      refine lv_bipush (v := 36) hx hb dX1_weighAnew_39 (by decide) ?_
      refine lv_icmp_ge (tgt := 87) hx hb dX1_weighAnew_41 (by decide) (fun c_35 => ?_) (fun c_35 => ?_)
      · have h := it_p c_35 h
        cases h
        exact K _ _ _ hP hD hS (lv_sub hl [1] rfl)
      · have h := it_n c_35 h
        refine lv_iload_n hx hb dX1_weighAnew_44 rfl (lv_at hl 1 rfl) ?_
        refine lv_if_ne (tgt := 63) hx hb dX1_weighAnew_45 (by decide) (fun c_36 => ?_) (fun c_36 => ?_)
        · have h := it_n c_36 h
          refine lv_iconst (v := 1) hx hb dX1_weighAnew_63 (by decide) ?_
          refine lv_goto (tgt := 68) hx hb dX1_weighAnew_64 (by decide) ?_
          refine lv_topi (fun x1_37 ex1_37 => ?_)
          have h := nm_s h x1_37 ex1_37
          refine lv_istore_n (lv' := [(1, .int x1_37), (2, .int y2_29), (0, .ref h1)]) hx hb dX1_weighAnew_68 rfl hl (by decide) rfl (fun ls hl => ?_)
          refine lv_aload_n hx hb dX1_weighAnew_69 rfl (lv_at hl 2 rfl) ?_
          refine va_get (D := D) (ci := 0) (v := .ref weights1a) (C := RX1) (T := TX1) (N := 8) hx hb hts hinX1 hown hK.1 hP 0 rfl rfl 0 (by decide) hw5 (fun _ h9 => h9) rfl dX1_weighAnew_70 ?_
          refine lv_iload_n hx hb dX1_weighAnew_73 rfl (lv_at hl 1 rfl) ?_
          refine lv_aload_n hx hb dX1_weighAnew_74 rfl (lv_at hl 2 rfl) ?_
          refine va_get (D := D) (ci := 0) (v := .ref freshWeights1a) (C := RX1) (T := TX1) (N := 8) hx hb hts hinX1 hown hK.1 hP 0 rfl rfl 1 (by decide) hw1 (fun _ h9 => h9) rfl dX1_weighAnew_75 ?_
          refine lv_iload_n hx hb dX1_weighAnew_78 rfl (lv_at hl 1 rfl) ?_
          obtain ⟨hi_38, h⟩ := gA_s h
          refine va_iald hx hb hK.1 hP 2 0 rfl rfl hi_38 dX1_weighAnew_79 ?_
          refine lv_topi (fun v_39 ev_39 => ?_)
          have h := h v_39 ev_39
          obtain ⟨hi_40, h⟩ := sI_s h
          refine va_iast hx hb hK.1 hP hD hS 1 0 rfl rfl hi_40 dX1_weighAnew_80 (fun H locs hP hD hS => ?_)
          obtain ⟨weights1_41, eweights1_41⟩ : ∃ z, z = upd weights1_31 (Int32.toNatClampNeg y2_29) v_39 := ⟨_, rfl⟩
          have h := h weights1_41 eweights1_41
          rw [← eweights1_41] at hP hD
          have hP : va_P D vwK (w1 cI cJ h1 weights1a freshWeights1a signs1a lengths1a sums1a nextSums1a bestFrom1a bestPath1a weights1_41 freshWeights1_23 signs1 lengths1 sums1 nextSums1 bestFrom1_24 bestPath1_25) H := hP
          have hD : va_D A (w1 cI cJ h1 weights1a freshWeights1a signs1a lengths1a sums1a nextSums1a bestFrom1a bestPath1a weights1_41 freshWeights1_23 signs1 lengths1 sums1 nextSums1 bestFrom1_24 bestPath1_25) := hD
          obtain ⟨x2_42, ex2_42⟩ : ∃ z : Int32, z = y2_29 + 1 := ⟨_, rfl⟩
          have h := nm_s h x2_42 ex2_42
          refine lv_iinc (v := x2_42) (lv' := [(2, .int x2_42), (1, .int x1_37), (0, .ref h1)]) hx hb dX1_weighAnew_81 hl (k := 1) rfl (by rw [ex2_42]; rfl) (by decide) rfl (fun ls hl => ?_)
          refine lv_goto (tgt := 38) hx hb dX1_weighAnew_84 (by decide) ?_
          exact ih _ _ _ _ _ _ h _ _ _ hP hD hS (lv_sub hl [0, 1, 2] rfl) K
        · have h := it_p c_36 h
          refine lv_aload_n hx hb dX1_weighAnew_48 rfl (lv_at hl 2 rfl) ?_
          refine va_get (D := D) (ci := 0) (v := .ref weights1a) (C := RX1) (T := TX1) (N := 8) hx hb hts hinX1 hown hK.1 hP 0 rfl rfl 0 (by decide) hw5 (fun _ h9 => h9) rfl dX1_weighAnew_49 ?_
          refine lv_iload_n hx hb dX1_weighAnew_52 rfl (lv_at hl 0 rfl) ?_
          obtain ⟨hi_43, h⟩ := gA_s h
          refine va_iald hx hb hK.1 hP 1 0 rfl rfl hi_43 dX1_weighAnew_53 ?_
          refine lv_topi (fun v_44 ev_44 => ?_)
          have h := h v_44 ev_44
          refine lv_aload_n hx hb dX1_weighAnew_54 rfl (lv_at hl 2 rfl) ?_
          refine va_get (D := D) (ci := 0) (v := .ref freshWeights1a) (C := RX1) (T := TX1) (N := 8) hx hb hts hinX1 hown hK.1 hP 0 rfl rfl 1 (by decide) hw1 (fun _ h9 => h9) rfl dX1_weighAnew_55 ?_
          refine lv_iload_n hx hb dX1_weighAnew_58 rfl (lv_at hl 0 rfl) ?_
          obtain ⟨hi_45, h⟩ := gA_s h
          refine va_iald hx hb hK.1 hP 2 0 rfl rfl hi_45 dX1_weighAnew_59 ?_
          refine lv_topi (fun v_46 ev_46 => ?_)
          have h := h v_46 ev_46
          refine lv_icmp_eq (tgt := 67) hx hb dX1_weighAnew_60 (by decide) (fun c_47 => ?_) (fun c_47 => ?_)
          · have h := it_p c_47 h
            refine lv_iconst (v := 0) hx hb dX1_weighAnew_67 (by decide) ?_
            refine lv_topi (fun x1_48 ex1_48 => ?_)
            have h := nm_s h x1_48 ex1_48
            refine lv_istore_n (lv' := [(1, .int x1_48), (2, .int y2_29), (0, .ref h1)]) hx hb dX1_weighAnew_68 rfl hl (by decide) rfl (fun ls hl => ?_)
            refine lv_aload_n hx hb dX1_weighAnew_69 rfl (lv_at hl 2 rfl) ?_
            refine va_get (D := D) (ci := 0) (v := .ref weights1a) (C := RX1) (T := TX1) (N := 8) hx hb hts hinX1 hown hK.1 hP 0 rfl rfl 0 (by decide) hw5 (fun _ h9 => h9) rfl dX1_weighAnew_70 ?_
            refine lv_iload_n hx hb dX1_weighAnew_73 rfl (lv_at hl 1 rfl) ?_
            refine lv_aload_n hx hb dX1_weighAnew_74 rfl (lv_at hl 2 rfl) ?_
            refine va_get (D := D) (ci := 0) (v := .ref freshWeights1a) (C := RX1) (T := TX1) (N := 8) hx hb hts hinX1 hown hK.1 hP 0 rfl rfl 1 (by decide) hw1 (fun _ h9 => h9) rfl dX1_weighAnew_75 ?_
            refine lv_iload_n hx hb dX1_weighAnew_78 rfl (lv_at hl 1 rfl) ?_
            obtain ⟨hi_49, h⟩ := gA_s h
            refine va_iald hx hb hK.1 hP 2 0 rfl rfl hi_49 dX1_weighAnew_79 ?_
            refine lv_topi (fun v_50 ev_50 => ?_)
            have h := h v_50 ev_50
            obtain ⟨hi_51, h⟩ := sI_s h
            refine va_iast hx hb hK.1 hP hD hS 1 0 rfl rfl hi_51 dX1_weighAnew_80 (fun H locs hP hD hS => ?_)
            obtain ⟨weights1_52, eweights1_52⟩ : ∃ z, z = upd weights1_31 (Int32.toNatClampNeg y2_29) v_50 := ⟨_, rfl⟩
            have h := h weights1_52 eweights1_52
            rw [← eweights1_52] at hP hD
            have hP : va_P D vwK (w1 cI cJ h1 weights1a freshWeights1a signs1a lengths1a sums1a nextSums1a bestFrom1a bestPath1a weights1_52 freshWeights1_23 signs1 lengths1 sums1 nextSums1 bestFrom1_24 bestPath1_25) H := hP
            have hD : va_D A (w1 cI cJ h1 weights1a freshWeights1a signs1a lengths1a sums1a nextSums1a bestFrom1a bestPath1a weights1_52 freshWeights1_23 signs1 lengths1 sums1 nextSums1 bestFrom1_24 bestPath1_25) := hD
            obtain ⟨x2_53, ex2_53⟩ : ∃ z : Int32, z = y2_29 + 1 := ⟨_, rfl⟩
            have h := nm_s h x2_53 ex2_53
            refine lv_iinc (v := x2_53) (lv' := [(2, .int x2_53), (1, .int x1_48), (0, .ref h1)]) hx hb dX1_weighAnew_81 hl (k := 1) rfl (by rw [ex2_53]; rfl) (by decide) rfl (fun ls hl => ?_)
            refine lv_goto (tgt := 38) hx hb dX1_weighAnew_84 (by decide) ?_
            exact ih _ _ _ _ _ _ h _ _ _ hP hD hS (lv_sub hl [0, 1, 2] rfl) K
          · have h := it_n c_47 h
            refine lv_iconst (v := 1) hx hb dX1_weighAnew_63 (by decide) ?_
            refine lv_goto (tgt := 68) hx hb dX1_weighAnew_64 (by decide) ?_
            refine lv_topi (fun x1_54 ex1_54 => ?_)
            have h := nm_s h x1_54 ex1_54
            refine lv_istore_n (lv' := [(1, .int x1_54), (2, .int y2_29), (0, .ref h1)]) hx hb dX1_weighAnew_68 rfl hl (by decide) rfl (fun ls hl => ?_)
            refine lv_aload_n hx hb dX1_weighAnew_69 rfl (lv_at hl 2 rfl) ?_
            refine va_get (D := D) (ci := 0) (v := .ref weights1a) (C := RX1) (T := TX1) (N := 8) hx hb hts hinX1 hown hK.1 hP 0 rfl rfl 0 (by decide) hw5 (fun _ h9 => h9) rfl dX1_weighAnew_70 ?_
            refine lv_iload_n hx hb dX1_weighAnew_73 rfl (lv_at hl 1 rfl) ?_
            refine lv_aload_n hx hb dX1_weighAnew_74 rfl (lv_at hl 2 rfl) ?_
            refine va_get (D := D) (ci := 0) (v := .ref freshWeights1a) (C := RX1) (T := TX1) (N := 8) hx hb hts hinX1 hown hK.1 hP 0 rfl rfl 1 (by decide) hw1 (fun _ h9 => h9) rfl dX1_weighAnew_75 ?_
            refine lv_iload_n hx hb dX1_weighAnew_78 rfl (lv_at hl 1 rfl) ?_
            obtain ⟨hi_55, h⟩ := gA_s h
            refine va_iald hx hb hK.1 hP 2 0 rfl rfl hi_55 dX1_weighAnew_79 ?_
            refine lv_topi (fun v_56 ev_56 => ?_)
            have h := h v_56 ev_56
            obtain ⟨hi_57, h⟩ := sI_s h
            refine va_iast hx hb hK.1 hP hD hS 1 0 rfl rfl hi_57 dX1_weighAnew_80 (fun H locs hP hD hS => ?_)
            obtain ⟨weights1_58, eweights1_58⟩ : ∃ z, z = upd weights1_31 (Int32.toNatClampNeg y2_29) v_56 := ⟨_, rfl⟩
            have h := h weights1_58 eweights1_58
            rw [← eweights1_58] at hP hD
            have hP : va_P D vwK (w1 cI cJ h1 weights1a freshWeights1a signs1a lengths1a sums1a nextSums1a bestFrom1a bestPath1a weights1_58 freshWeights1_23 signs1 lengths1 sums1 nextSums1 bestFrom1_24 bestPath1_25) H := hP
            have hD : va_D A (w1 cI cJ h1 weights1a freshWeights1a signs1a lengths1a sums1a nextSums1a bestFrom1a bestPath1a weights1_58 freshWeights1_23 signs1 lengths1 sums1 nextSums1 bestFrom1_24 bestPath1_25) := hD
            obtain ⟨x2_59, ex2_59⟩ : ∃ z : Int32, z = y2_29 + 1 := ⟨_, rfl⟩
            have h := nm_s h x2_59 ex2_59
            refine lv_iinc (v := x2_59) (lv' := [(2, .int x2_59), (1, .int x1_54), (0, .ref h1)]) hx hb dX1_weighAnew_81 hl (k := 1) rfl (by rw [ex2_59]; rfl) (by decide) rfl (fun ls hl => ?_)
            refine lv_goto (tgt := 38) hx hb dX1_weighAnew_84 (by decide) ?_
            exact ih _ _ _ _ _ _ h _ _ _ hP hD hS (lv_sub hl [0, 1, 2] rfl) K
  obtain ⟨⟨z2_60, z1_61, weights1_62⟩, hl_63, h⟩ := bd_s h
  refine L38 FU x2_28 x1_27 weights1 _ _ _ hl_63 _ _ _ hP hD hS (lv_sub hl [0, 1, 2] rfl) (fun H locs ls hP hD hS hl => ?_)
  refine lv_iload_n hx hb dX1_weighAnew_87 rfl (lv_at hl 0 rfl) ?_
  obtain ⟨hz_64, h⟩ := bz_s h
  cases h
  exact hret _ _ _ _ hz_64 hP hD hS dX1_weighAnew_88
def f_X1_signsOfAll_L4 (lengths1 : Nat → Int32) : Nat → Int32 → Int32 → Option (Int32 × Int32)
  | 0, _, _ => none
  | n + 1, y2_3, y1_4 =>
  if 4 ≤ y2_3 then
    some (y2_3, y1_4)
  else
    gA 4 lengths1 y2_3 fun v_9 =>
    nm (α := Int32) ((y1_4 + v_9)) fun x1_10 =>
    nm (α := Int32) (y2_3 + 1) fun x2_11 =>
    f_X1_signsOfAll_L4 lengths1 n x2_11 x1_10
def f_X1_signsOfAll (lengths1 : Nat → Int32) : Option (Int32) :=
  nm (α := Int32) (0) fun x1_1 =>
  nm (α := Int32) (0) fun x2_2 =>
  Option.bind (f_X1_signsOfAll_L4 lengths1 FU x2_2 x1_1) fun (z2_12, z1_13) =>
  some z1_13
set_option maxHeartbeats 4000000 in
set_option maxRecDepth 100000 in
theorem c_X1_signsOfAll (l : Launch) (D : va_G) (cI cJ : ClassId) (h1 weights1a freshWeights1a signs1a lengths1a sums1a nextSums1a bestFrom1a bestPath1a : Nat) (weights1 : Nat → Int32) (freshWeights1 : Nat → Int32) (signs1 : Nat → Int32) (lengths1 : Nat → Int32) (sums1 : Nat → Int64) (nextSums1 : Nat → Int64) (bestFrom1 : Nat → Int64) (bestPath1 : Nat → Int32) (ret9 : Int32) (h : f_X1_signsOfAll lengths1 = some ret9) : CI l D cI cJ yX1_signsOfAll wsX1_signsOfAll 0 0 [.ref h1] (w1 cI cJ h1 weights1a freshWeights1a signs1a lengths1a sums1a nextSums1a bestFrom1a bestPath1a weights1 freshWeights1 signs1 lengths1 sums1 nextSums1 bestFrom1 bestPath1) (w1 cI cJ h1 weights1a freshWeights1a signs1a lengths1a sums1a nextSums1a bestFrom1a bestPath1a weights1 freshWeights1 signs1 lengths1 sums1 nextSums1 bestFrom1 bestPath1) ret9 := by
  refine entI (cc := cX1_signsOfAll) (maxL := 3) (by decide) rfl (Nat.le_of_ble_eq_true rfl) ?_
  intro p e s m args below meth c ls A Q X hret
  obtain ⟨hx, hb, hml, hts, hown, hK, hA, hP, hD, hS, hl, hnm⟩ := X
  have hown : s.vm.findClass RX1 = some m.cls := hown
  have hl : lv_has ls 3 [(0, .ref h1)] := hl
  have hw1 : (Cond.fieldLink RX1 21 "CountLearners$HiddenStates" "lengths" "[I").before args s = true := hts _ (by decide +kernel)
  have hinX1 : ∀ w ∈ wsX10, w ∈ wsX1_signsOfAll := by decide +kernel
  unfold f_X1_signsOfAll at h
  refine lv_iconst (v := 0) hx hb dX1_signsOfAll_0 (by decide) ?_
  refine lv_topi (fun x1_1 ex1_1 => ?_)
  have h := nm_s h x1_1 ex1_1
  refine lv_istore_n (lv' := [(1, .int x1_1), (0, .ref h1)]) hx hb dX1_signsOfAll_1 rfl hl (by decide) rfl (fun ls hl => ?_)
  refine lv_iconst (v := 0) hx hb dX1_signsOfAll_2 (by decide) ?_
  refine lv_topi (fun x2_2 ex2_2 => ?_)
  have h := nm_s h x2_2 ex2_2
  refine lv_istore_n (lv' := [(2, .int x2_2), (1, .int x1_1), (0, .ref h1)]) hx hb dX1_signsOfAll_3 rfl hl (by decide) rfl (fun ls hl => ?_)
  have L4 : ∀ (n : Nat) (y2_3 : Int32) (y1_4 : Int32) (z2_5 : Int32) (z1_6 : Int32), f_X1_signsOfAll_L4 lengths1 n y2_3 y1_4 = some (z2_5, z1_6) → ∀ (H : Heap) (locs : List Loc) (ls : Array Slot), va_P D vwK (w1 cI cJ h1 weights1a freshWeights1a signs1a lengths1a sums1a nextSums1a bestFrom1a bestPath1a weights1 freshWeights1 signs1 lengths1 sums1 nextSums1 bestFrom1 bestPath1) H → va_D A (w1 cI cJ h1 weights1a freshWeights1a signs1a lengths1a sums1a nextSums1a bestFrom1a bestPath1a weights1 freshWeights1 signs1 lengths1 sums1 nextSums1 bestFrom1 bestPath1) → va_S A s.heap H locs → lv_has ls 3 [(2, .int y2_3), (1, .int y1_4), (0, .ref h1)] → (∀ (H : Heap) (locs : List Loc) (ls : Array Slot), va_P D vwK (w1 cI cJ h1 weights1a freshWeights1a signs1a lengths1a sums1a nextSums1a bestFrom1a bestPath1a weights1 freshWeights1 signs1 lengths1 sums1 nextSums1 bestFrom1 bestPath1) H → va_D A (w1 cI cJ h1 weights1a freshWeights1a signs1a lengths1a sums1a nextSums1a bestFrom1a bestPath1a weights1 freshWeights1 signs1 lengths1 sums1 nextSums1 bestFrom1 bestPath1) → va_S A s.heap H locs → lv_has ls 3 [(1, .int z1_6)] → W p l e (rmOf 0 0) s m args below meth c H locs 0 0 Q (F0 m 24 ls [])) → W p l e (rmOf 0 0) s m args below meth c H locs 0 0 Q (F0 m 4 ls []) := by
    intro n
    induction n with
    | zero => intro y2_3 y1_4 z2_5 z1_6 h; rw [f_X1_signsOfAll_L4.eq_1] at h; cases h
    | succ n ih =>
      intro y2_3 y1_4 z2_5 z1_6 h H locs ls hP hD hS hl K
      rw [f_X1_signsOfAll_L4.eq_2] at h
      refine lv_iload_n hx hb dX1_signsOfAll_4 rfl (lv_at hl 0 rfl) ?_
      refine lv_iconst (v := 4) hx hb dX1_signsOfAll_5 (by decide) ?_
      refine lv_icmp_ge (tgt := 24) hx hb dX1_signsOfAll_6 (by decide) (fun c_7 => ?_) (fun c_7 => ?_)
      · have h := it_p c_7 h
        cases h
        exact K _ _ _ hP hD hS (lv_sub hl [1] rfl)
      · have h := it_n c_7 h
        refine lv_iload_n hx hb dX1_signsOfAll_9 rfl (lv_at hl 1 rfl) ?_
        refine lv_aload_n hx hb dX1_signsOfAll_10 rfl (lv_at hl 2 rfl) ?_
        refine va_get (D := D) (ci := 0) (v := .ref lengths1a) (C := RX1) (T := TX1) (N := 8) hx hb hts hinX1 hown hK.1 hP 0 rfl rfl 3 (by decide) hw1 (fun _ h9 => h9) rfl dX1_signsOfAll_11 ?_
        refine lv_iload_n hx hb dX1_signsOfAll_14 rfl (lv_at hl 0 rfl) ?_
        obtain ⟨hi_8, h⟩ := gA_s h
        refine va_iald hx hb hK.1 hP 4 0 rfl rfl hi_8 dX1_signsOfAll_15 ?_
        refine lv_topi (fun v_9 ev_9 => ?_)
        have h := h v_9 ev_9
        refine lv_iadd hx hb dX1_signsOfAll_16 ?_
        refine lv_topi (fun x1_10 ex1_10 => ?_)
        have h := nm_s h x1_10 ex1_10
        refine lv_istore_n (lv' := [(1, .int x1_10), (2, .int y2_3), (0, .ref h1)]) hx hb dX1_signsOfAll_17 rfl hl (by decide) rfl (fun ls hl => ?_)
        obtain ⟨x2_11, ex2_11⟩ : ∃ z : Int32, z = y2_3 + 1 := ⟨_, rfl⟩
        have h := nm_s h x2_11 ex2_11
        refine lv_iinc (v := x2_11) (lv' := [(2, .int x2_11), (1, .int x1_10), (0, .ref h1)]) hx hb dX1_signsOfAll_18 hl (k := 1) rfl (by rw [ex2_11]; rfl) (by decide) rfl (fun ls hl => ?_)
        refine lv_goto (tgt := 4) hx hb dX1_signsOfAll_21 (by decide) ?_
        exact ih _ _ _ _ h _ _ _ hP hD hS (lv_sub hl [0, 1, 2] rfl) K
  obtain ⟨⟨z2_12, z1_13⟩, hl_14, h⟩ := bd_s h
  refine L4 FU x2_2 x1_1 _ _ hl_14 _ _ _ hP hD hS (lv_sub hl [0, 1, 2] rfl) (fun H locs ls hP hD hS hl => ?_)
  refine lv_iload_n hx hb dX1_signsOfAll_24 rfl (lv_at hl 0 rfl) ?_
  cases h
  exact hret _ _ _ _ hP hD hS dX1_signsOfAll_25
