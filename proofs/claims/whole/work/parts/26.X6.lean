def f_X6_thrown (thrown6 : Int32) : Option (Int32) :=
  some thrown6
set_option maxHeartbeats 4000000 in
set_option maxRecDepth 100000 in
theorem c_X6_thrown (l : Launch) (D : va_G) (cI cJ : ClassId) (h6 labels6a guesses6a comes6a sizes6a words6a told6a behind6a shares6a start6a move6a show6a signs6a many6a bestPath6a nextStart6a nextMove6a nextShow6a : Nat) (thrown6 : Int32) (rows6 : Int32) (labels6 : Nat → Int32) (guesses6 : Nat → Int32) (comes6 : Nat → Int32) (sizes6 : Nat → Int32) (words6 : Nat → Int32) (up6 : Int32) (down6 : Int32) (weightAbove6 : Int64) (weightBelow6 : Int64) (told6 : Nat → Int32) (length6 : Int32) (behind6 : Nat → Int32) (shares6 : Nat → Int64) (over6 : Int64) (start6 : Nat → Int32) (move6 : Nat → Int32) (show6 : Nat → Int32) (signs6 : Nat → Int32) (many6 : Nat → Int32) (bestPath6 : Nat → Int32) (nextStart6 : Nat → Int32) (nextMove6 : Nat → Int32) (nextShow6 : Nat → Int32) (ret9 : Int32) (h : f_X6_thrown thrown6 = some ret9) : CI l D cI cJ yX6_thrown wsX6_thrown 0 0 [.ref h6] (w6 cI cJ h6 labels6a guesses6a comes6a sizes6a words6a told6a behind6a shares6a start6a move6a show6a signs6a many6a bestPath6a nextStart6a nextMove6a nextShow6a thrown6 rows6 labels6 guesses6 comes6 sizes6 words6 up6 down6 weightAbove6 weightBelow6 told6 length6 behind6 shares6 over6 start6 move6 show6 signs6 many6 bestPath6 nextStart6 nextMove6 nextShow6) (w6 cI cJ h6 labels6a guesses6a comes6a sizes6a words6a told6a behind6a shares6a start6a move6a show6a signs6a many6a bestPath6a nextStart6a nextMove6a nextShow6a thrown6 rows6 labels6 guesses6 comes6 sizes6 words6 up6 down6 weightAbove6 weightBelow6 told6 length6 behind6 shares6 over6 start6 move6 show6 signs6 many6 bestPath6 nextStart6 nextMove6 nextShow6) ret9 := by
  refine entI (cc := cX6_thrown) (maxL := 1) (by decide) rfl (Nat.le_of_ble_eq_true rfl) ?_
  intro p e s m args below meth c ls A Q X hret
  obtain ⟨hx, hb, hml, hts, hown, hK, hA, hP, hD, hS, hl, hnm⟩ := X
  have hown : s.vm.findClass RX6 = some m.cls := hown
  have hl : lv_has ls 1 [(0, .ref h6)] := hl
  have hw1 : (Cond.fieldLink RX6 69 "CountLearnersModel" "thrown" "I").before args s = true := hts _ (by decide +kernel)
  have hinX6 : ∀ w ∈ wsX60, w ∈ wsX6_thrown := by decide +kernel
  unfold f_X6_thrown at h
  refine lv_aload_n hx hb dX6_thrown_0 rfl (lv_at hl 0 rfl) ?_
  refine va_get (D := D) (ci := 5) (v := .int thrown6) (C := RX6) (T := TX6) (N := 25) hx hb hts hinX6 hown hK.1 hP 0 rfl rfl 0 (by decide) hw1 (fun _ h9 => h9) rfl dX6_thrown_1 ?_
  cases h
  exact hret _ _ _ _ hP hD hS dX6_thrown_4
def f_X6_within (i0 : Int32) (i1 : Int32) (i2 : Int32) : Option (Int32) :=
  if i0 < i1 then
    some 0
  else
    if i2 < i0 then
      some 0
    else
      some 1
set_option maxHeartbeats 4000000 in
set_option maxRecDepth 100000 in
theorem c_X6_within (l : Launch) (D : va_G) (cI cJ : ClassId) (i0 : Int32) (i1 : Int32) (i2 : Int32) (ret9 : Int32) (h : f_X6_within i0 i1 i2 = some ret9) : CI l D cI cJ yX6_within wsX6_within 0 0 [.int i0, .int i1, .int i2] [] [] ret9 := by
  refine entZ (cc := cX6_within) (maxL := 3) (by decide) rfl (Nat.le_of_ble_eq_true rfl) ?_
  intro p e s m args below meth c ls A Q X hret
  obtain ⟨hx, hb, hml, hts, hown, hK, hA, hP, hD, hS, hl, hnm⟩ := X
  have hown : s.vm.findClass RX6 = some m.cls := hown
  have hl : lv_has ls 3 [(0, .int i0), (1, .int i1), (2, .int i2)] := hl
  unfold f_X6_within at h
  refine lv_iload_n hx hb dX6_within_0 rfl (lv_at hl 0 rfl) ?_
  refine lv_iload_n hx hb dX6_within_1 rfl (lv_at hl 1 rfl) ?_
  refine lv_icmp_lt (tgt := 14) hx hb dX6_within_2 (by decide) (fun c_1 => ?_) (fun c_1 => ?_)
  · have h := it_p c_1 h
    refine lv_iconst (v := 0) hx hb dX6_within_14 (by decide) ?_
    cases h
    exact hret _ _ _ _ (Or.inl rfl) hP hD hS dX6_within_15
  · have h := it_n c_1 h
    refine lv_iload_n hx hb dX6_within_5 rfl (lv_at hl 0 rfl) ?_
    refine lv_iload_n hx hb dX6_within_6 rfl (lv_at hl 2 rfl) ?_
    refine lv_icmp_gt (tgt := 14) hx hb dX6_within_7 (by decide) (fun c_2 => ?_) (fun c_2 => ?_)
    · have h := it_p c_2 h
      refine lv_iconst (v := 0) hx hb dX6_within_14 (by decide) ?_
      cases h
      exact hret _ _ _ _ (Or.inl rfl) hP hD hS dX6_within_15
    · have h := it_n c_2 h
      refine lv_iconst (v := 1) hx hb dX6_within_10 (by decide) ?_
      refine lv_goto (tgt := 15) hx hb dX6_within_11 (by decide) ?_
      cases h
      exact hret _ _ _ _ (Or.inr rfl) hP hD hS dX6_within_15
def f_X6_measure_L6 : Nat → Int64 → Int64 → Option (Int64 × Int64)
  | 0, _, _ => none
  | n + 1, k6_3, k4_4 =>
  if (lg_cmp k6_3 0) = 0 then
    some (k6_3, k4_4)
  else
    dzL k6_3 <|
    nm (α := Int64) ((k4_4 - k4_4 / k6_3 * k6_3)) fun j8_9 =>
    nm (α := Int64) (k6_3) fun j4_10 =>
    nm (α := Int64) (j8_9) fun j6_11 =>
    f_X6_measure_L6 n j6_11 j4_10
def f_X6_measure (q0 : Int64) (q2 : Int64) : Option (Int64) :=
  nm (α := Int64) (q0) fun j4_1 =>
  nm (α := Int64) (q2) fun j6_2 =>
  Option.bind (f_X6_measure_L6 FU j6_2 j4_1) fun (z6_12, z4_13) =>
  some z4_13
set_option maxHeartbeats 4000000 in
set_option maxRecDepth 100000 in
theorem c_X6_measure (l : Launch) (D : va_G) (cI cJ : ClassId) (q0 : Int64) (q2 : Int64) (ret9 : Int64) (h : f_X6_measure q0 q2 = some ret9) : CL l D cI cJ yX6_measure wsX6_measure 0 0 [.long q0, .long q2] [] [] ret9 := by
  refine entL (cc := cX6_measure) (maxL := 10) (by decide) rfl (Nat.le_of_ble_eq_true rfl) ?_
  intro p e s m args below meth c ls A Q X hret
  obtain ⟨hx, hb, hml, hts, hown, hK, hA, hP, hD, hS, hl, hnm⟩ := X
  have hown : s.vm.findClass RX6 = some m.cls := hown
  have hl : lv_has ls 10 [(0, .long q0), (2, .long q2)] := hl
  unfold f_X6_measure at h
  refine lv_lload_n hx hb dX6_measure_0 rfl (lv_at hl 0 rfl) ?_
  refine lv_topl (fun j4_1 ej4_1 => ?_)
  have h := nm_s h j4_1 ej4_1
  refine lv_lstore (lv' := [(4, .long j4_1), (0, .long q0), (2, .long q2)]) hx hb dX6_measure_1 hl (by decide) rfl (fun ls hl => ?_)
  refine lv_lload_n hx hb dX6_measure_3 rfl (lv_at hl 2 rfl) ?_
  refine lv_topl (fun j6_2 ej6_2 => ?_)
  have h := nm_s h j6_2 ej6_2
  refine lv_lstore (lv' := [(6, .long j6_2), (4, .long j4_1), (0, .long q0), (2, .long q2)]) hx hb dX6_measure_4 hl (by decide) rfl (fun ls hl => ?_)
  have L6 : ∀ (n : Nat) (k6_3 : Int64) (k4_4 : Int64) (z6_5 : Int64) (z4_6 : Int64), f_X6_measure_L6 n k6_3 k4_4 = some (z6_5, z4_6) → ∀ (H : Heap) (locs : List Loc) (ls : Array Slot), va_P D vwK [] H → va_D A [] → va_S A s.heap H locs → lv_has ls 10 [(6, .long k6_3), (4, .long k4_4)] → (∀ (H : Heap) (locs : List Loc) (ls : Array Slot), va_P D vwK [] H → va_D A [] → va_S A s.heap H locs → lv_has ls 10 [(4, .long z4_6)] → W p l e (rmOf 0 0) s m args below meth c H locs 0 0 Q (F0 m 31 ls [])) → W p l e (rmOf 0 0) s m args below meth c H locs 0 0 Q (F0 m 6 ls []) := by
    intro n
    induction n with
    | zero => intro k6_3 k4_4 z6_5 z4_6 h; rw [f_X6_measure_L6.eq_1] at h; cases h
    | succ n ih =>
      intro k6_3 k4_4 z6_5 z4_6 h H locs ls hP hD hS hl K
      rw [f_X6_measure_L6.eq_2] at h
      refine lv_lload hx hb dX6_measure_6 (lv_at hl 0 rfl) ?_
      refine lv_lconst (v := 0) hx hb dX6_measure_8 (by decide) ?_
      refine W.lcmp hx hb dX6_measure_9 ?_
      refine lv_if_eq (tgt := 31) hx hb dX6_measure_10 (by decide) (fun c_7 => ?_) (fun c_7 => ?_)
      · have h := it_p c_7 h
        cases h
        exact K _ _ _ hP hD hS (lv_sub hl [1] rfl)
      · have h := it_n c_7 h
        refine lv_lload hx hb dX6_measure_13 (lv_at hl 1 rfl) ?_
        refine lv_lload hx hb dX6_measure_15 (lv_at hl 0 rfl) ?_
        obtain ⟨hz_8, h⟩ := dzL_s h
        refine lv_lrem hx hb dX6_measure_17 hz_8 ?_
        refine lv_topl (fun j8_9 ej8_9 => ?_)
        have h := nm_s h j8_9 ej8_9
        refine lv_lstore (lv' := [(8, .long j8_9), (6, .long k6_3), (4, .long k4_4)]) hx hb dX6_measure_18 hl (by decide) rfl (fun ls hl => ?_)
        refine lv_lload hx hb dX6_measure_20 (lv_at hl 1 rfl) ?_
        refine lv_topl (fun j4_10 ej4_10 => ?_)
        have h := nm_s h j4_10 ej4_10
        refine lv_lstore (lv' := [(4, .long j4_10), (8, .long j8_9), (6, .long k6_3)]) hx hb dX6_measure_22 hl (by decide) rfl (fun ls hl => ?_)
        refine lv_lload hx hb dX6_measure_24 (lv_at hl 1 rfl) ?_
        refine lv_topl (fun j6_11 ej6_11 => ?_)
        have h := nm_s h j6_11 ej6_11
        refine lv_lstore (lv' := [(6, .long j6_11), (4, .long j4_10), (8, .long j8_9)]) hx hb dX6_measure_26 hl (by decide) rfl (fun ls hl => ?_)
        refine lv_goto (tgt := 6) hx hb dX6_measure_28 (by decide) ?_
        exact ih _ _ _ _ h _ _ _ hP hD hS (lv_sub hl [0, 1] rfl) K
  obtain ⟨⟨z6_12, z4_13⟩, hl_14, h⟩ := bd_s h
  refine L6 FU j6_2 j4_1 _ _ hl_14 _ _ _ hP hD hS (lv_sub hl [0, 1] rfl) (fun H locs ls hP hD hS hl => ?_)
  refine lv_lload hx hb dX6_measure_31 (lv_at hl 0 rfl) ?_
  cases h
  exact hret _ _ _ _ hP hD hS dX6_measure_33
def f_X6_side (q0 : Int64) (q2 : Int64) (i4 : Int32) : Option (Int64) :=
  Option.bind (f_X6_measure q0 q2) fun rj_1 =>
  nm (α := Int64) (rj_1) fun j5_3 =>
  if i4 = 0 then
    dzL j5_3 <|
    some (q0 / j5_3)
  else
    dzL j5_3 <|
    some (q2 / j5_3)
set_option maxHeartbeats 4000000 in
set_option maxRecDepth 100000 in
theorem c_X6_side (l : Launch) (D : va_G) (cI cJ : ClassId) (q0 : Int64) (q2 : Int64) (i4 : Int32) (ret9 : Int64) (h : f_X6_side q0 q2 i4 = some ret9) : CL l D cI cJ yX6_side wsX6_side 1 29 [.long q0, .long q2, .int i4] [] [] ret9 := by
  refine entL (cc := cX6_side) (maxL := 7) (by decide) rfl (Nat.le_of_ble_eq_true rfl) ?_
  intro p e s m args below meth c ls A Q X hret
  obtain ⟨hx, hb, hml, hts, hown, hK, hA, hP, hD, hS, hl, hnm⟩ := X
  have hown : s.vm.findClass RX6 = some m.cls := hown
  have hl : lv_has ls 7 [(0, .long q0), (2, .long q2), (4, .int i4)] := hl
  unfold f_X6_side at h
  refine lv_lload_n hx hb dX6_side_0 rfl (lv_at hl 0 rfl) ?_
  refine lv_lload_n hx hb dX6_side_1 rfl (lv_at hl 1 rfl) ?_
  obtain ⟨rj_1, hc_2, h⟩ := bd_s h
  refine callPl (As := [.long q0, .long q2]) (rest := []) ⟨hx, hb, hml, hown, hts⟩ (c_X6_measure l D cI cJ q0 q2 rj_1 hc_2) (va_cwS 2 hts gX6_side_X6_measure rfl rfl rfl (by decide +kernel) ⟨Nat.le_of_ble_eq_true rfl, Nat.le_of_ble_eq_true rfl⟩) hK hP hD hS hA rfl hl.1 rfl (Nat.le_of_ble_eq_true rfl) dX6_side_2 ⟨Nat.zero_le _, Nat.zero_le _⟩ (fun H locs hP hD hS => ?_)
  refine lv_topl (fun j5_3 ej5_3 => ?_)
  have h := nm_s h j5_3 ej5_3
  refine lv_lstore (lv' := [(5, .long j5_3), (0, .long q0), (2, .long q2), (4, .int i4)]) hx hb dX6_side_5 hl (by decide) rfl (fun ls hl => ?_)
  refine lv_iload hx hb dX6_side_7 (lv_at hl 3 rfl) ?_
  refine lv_if_ne (tgt := 19) hx hb dX6_side_9 (by decide) (fun c_4 => ?_) (fun c_4 => ?_)
  · have h := it_n c_4 h
    refine lv_lload_n hx hb dX6_side_19 rfl (lv_at hl 2 rfl) ?_
    refine lv_lload hx hb dX6_side_20 (lv_at hl 0 rfl) ?_
    obtain ⟨hz_5, h⟩ := dzL_s h
    refine lv_ldiv hx hb dX6_side_22 hz_5 ?_
    cases h
    exact hret _ _ _ _ hP hD hS dX6_side_23
  · have h := it_p c_4 h
    refine lv_lload_n hx hb dX6_side_12 rfl (lv_at hl 1 rfl) ?_
    refine lv_lload hx hb dX6_side_13 (lv_at hl 0 rfl) ?_
    obtain ⟨hz_6, h⟩ := dzL_s h
    refine lv_ldiv hx hb dX6_side_15 hz_6 ?_
    refine lv_goto (tgt := 23) hx hb dX6_side_16 (by decide) ?_
    cases h
    exact hret _ _ _ _ hP hD hS dX6_side_23
def f_X6_isAbove_L17 : Nat → Int32 → Int64 → Int64 → Int64 → Int64 → Option ((Int32) ⊕ (Int32 × Int64 × Int64 × Int64 × Int64))
  | 0, _, _, _, _, _ => none
  | n + 1, y16_6, k14_7, k12_8, k10_9, k8_10 =>
  if (lg_cmp k10_9 0) = 0 then
    some (.inr (y16_6, k14_7, k12_8, k10_9, k8_10))
  else
    if (lg_cmp k14_7 0) = 0 then
      some (.inr (y16_6, k14_7, k12_8, k10_9, k8_10))
    else
      dzL k10_9 <|
      nm (α := Int64) ((k8_10 / k10_9)) fun j17_19 =>
      dzL k14_7 <|
      nm (α := Int64) ((k12_8 / k14_7)) fun j19_21 =>
      if (lg_cmp j17_19 j19_21) = 0 then
        dzL k10_9 <|
        nm (α := Int64) ((k8_10 - k8_10 / k10_9 * k10_9)) fun j21_24 =>
        nm (α := Int64) (k10_9) fun j8_25 =>
        nm (α := Int64) (j21_24) fun j10_26 =>
        dzL k14_7 <|
        nm (α := Int64) ((k12_8 - k12_8 / k14_7 * k14_7)) fun j21_28 =>
        nm (α := Int64) (k14_7) fun j12_29 =>
        nm (α := Int64) (j21_28) fun j14_30 =>
        if y16_6 = 0 then
          nm (α := Int32) (1) fun x16_33 =>
          f_X6_isAbove_L17 n x16_33 j14_30 j12_29 j10_26 j8_25
        else
          nm (α := Int32) (0) fun x16_32 =>
          f_X6_isAbove_L17 n x16_32 j14_30 j12_29 j10_26 j8_25
      else
        if (lg_cmp j17_19 j19_21) ≤ 0 then
          if 0 = y16_6 then
            some (.inl 0)
          else
            some (.inl 1)
        else
          if 1 = y16_6 then
            some (.inl 0)
          else
            some (.inl 1)
def f_X6_isAbove (q0 : Int64) (q2 : Int64) (q4 : Int64) (q6 : Int64) : Option (Int32) :=
  nm (α := Int64) (q0) fun j8_1 =>
  nm (α := Int64) (q2) fun j10_2 =>
  nm (α := Int64) (q4) fun j12_3 =>
  nm (α := Int64) (q6) fun j14_4 =>
  nm (α := Int32) (0) fun x16_5 =>
  Option.bind (f_X6_isAbove_L17 FU x16_5 j14_4 j12_3 j10_2 j8_1) fun r9 => match r9 with
  | .inl r9 => some r9
  | .inr (z16_37, z14_38, z12_39, z10_40, z8_41) =>
    if (lg_cmp z10_40 z14_38) = 0 then
      some 0
    else
      if (lg_cmp z10_40 0) = 0 then
        if 1 = z16_37 then
          some 0
        else
          some 1
      else
        if 0 = z16_37 then
          some 0
        else
          some 1
set_option maxHeartbeats 4000000 in
set_option maxRecDepth 100000 in
theorem c_X6_isAbove (l : Launch) (D : va_G) (cI cJ : ClassId) (q0 : Int64) (q2 : Int64) (q4 : Int64) (q6 : Int64) (ret9 : Int32) (h : f_X6_isAbove q0 q2 q4 q6 = some ret9) : CI l D cI cJ yX6_isAbove wsX6_isAbove 0 0 [.long q0, .long q2, .long q4, .long q6] [] [] ret9 := by
  refine entZ (cc := cX6_isAbove) (maxL := 23) (by decide) rfl (Nat.le_of_ble_eq_true rfl) ?_
  intro p e s m args below meth c ls A Q X hret
  obtain ⟨hx, hb, hml, hts, hown, hK, hA, hP, hD, hS, hl, hnm⟩ := X
  have hown : s.vm.findClass RX6 = some m.cls := hown
  have hl : lv_has ls 23 [(0, .long q0), (2, .long q2), (4, .long q4), (6, .long q6)] := hl
  unfold f_X6_isAbove at h
  refine lv_lload_n hx hb dX6_isAbove_0 rfl (lv_at hl 0 rfl) ?_
  refine lv_topl (fun j8_1 ej8_1 => ?_)
  have h := nm_s h j8_1 ej8_1
  refine lv_lstore (lv' := [(8, .long j8_1), (0, .long q0), (2, .long q2), (4, .long q4), (6, .long q6)]) hx hb dX6_isAbove_1 hl (by decide) rfl (fun ls hl => ?_)
  refine lv_lload_n hx hb dX6_isAbove_3 rfl (lv_at hl 2 rfl) ?_
  refine lv_topl (fun j10_2 ej10_2 => ?_)
  have h := nm_s h j10_2 ej10_2
  refine lv_lstore (lv' := [(10, .long j10_2), (8, .long j8_1), (0, .long q0), (2, .long q2), (4, .long q4), (6, .long q6)]) hx hb dX6_isAbove_4 hl (by decide) rfl (fun ls hl => ?_)
  refine lv_lload hx hb dX6_isAbove_6 (lv_at hl 4 rfl) ?_
  refine lv_topl (fun j12_3 ej12_3 => ?_)
  have h := nm_s h j12_3 ej12_3
  refine lv_lstore (lv' := [(12, .long j12_3), (10, .long j10_2), (8, .long j8_1), (0, .long q0), (2, .long q2), (4, .long q4), (6, .long q6)]) hx hb dX6_isAbove_8 hl (by decide) rfl (fun ls hl => ?_)
  refine lv_lload hx hb dX6_isAbove_10 (lv_at hl 6 rfl) ?_
  refine lv_topl (fun j14_4 ej14_4 => ?_)
  have h := nm_s h j14_4 ej14_4
  refine lv_lstore (lv' := [(14, .long j14_4), (12, .long j12_3), (10, .long j10_2), (8, .long j8_1), (0, .long q0), (2, .long q2), (4, .long q4), (6, .long q6)]) hx hb dX6_isAbove_12 hl (by decide) rfl (fun ls hl => ?_)
  refine lv_iconst (v := 0) hx hb dX6_isAbove_14 (by decide) ?_
  refine lv_topi (fun x16_5 ex16_5 => ?_)
  have h := nm_s h x16_5 ex16_5
  refine lv_istore (lv' := [(16, .int x16_5), (14, .long j14_4), (12, .long j12_3), (10, .long j10_2), (8, .long j8_1), (0, .long q0), (2, .long q2), (4, .long q4), (6, .long q6)]) hx hb dX6_isAbove_15 hl (by decide) rfl (fun ls hl => ?_)
  have L17 : ∀ (n : Nat) (y16_6 : Int32) (k14_7 : Int64) (k12_8 : Int64) (k10_9 : Int64) (k8_10 : Int64) (res : (Int32) ⊕ (Int32 × Int64 × Int64 × Int64 × Int64)), f_X6_isAbove_L17 n y16_6 k14_7 k12_8 k10_9 k8_10 = some res → ∀ (H : Heap) (locs : List Loc) (ls : Array Slot), va_P D vwK [] H → va_D A [] → va_S A s.heap H locs → lv_has ls 23 [(16, .int y16_6), (14, .long k14_7), (12, .long k12_8), (10, .long k10_9), (8, .long k8_10)] → (∀ rt, res = .inl rt → rt = ret9) → (∀ (z16_11 : Int32) (z14_12 : Int64) (z12_13 : Int64) (z10_14 : Int64) (z8_15 : Int64), res = .inr (z16_11, z14_12, z12_13, z10_14, z8_15) → ∀ (H : Heap) (locs : List Loc) (ls : Array Slot), va_P D vwK [] H → va_D A [] → va_S A s.heap H locs → lv_has ls 23 [(16, .int z16_11), (14, .long z14_12), (10, .long z10_14)] → W p l e (rmOf 0 0) s m args below meth c H locs 0 0 Q (F0 m 122 ls [])) → W p l e (rmOf 0 0) s m args below meth c H locs 0 0 Q (F0 m 17 ls []) := by
    intro n
    induction n with
    | zero => intro y16_6 k14_7 k12_8 k10_9 k8_10 res h; rw [f_X6_isAbove_L17.eq_1] at h; cases h
    | succ n ih =>
      intro y16_6 k14_7 k12_8 k10_9 k8_10 res h H locs ls hP hD hS hl KR K
      rw [f_X6_isAbove_L17.eq_2] at h
      refine lv_lload hx hb dX6_isAbove_17 (lv_at hl 3 rfl) ?_
      refine lv_lconst (v := 0) hx hb dX6_isAbove_19 (by decide) ?_
      refine W.lcmp hx hb dX6_isAbove_20 ?_
      refine lv_if_eq (tgt := 122) hx hb dX6_isAbove_21 (by decide) (fun c_16 => ?_) (fun c_16 => ?_)
      · have h := it_p c_16 h
        cases h
        exact K _ _ _ _ _ rfl _ _ _ hP hD hS (lv_sub hl [0, 1, 3] rfl)
      · have h := it_n c_16 h
        refine lv_lload hx hb dX6_isAbove_24 (lv_at hl 1 rfl) ?_
        refine lv_lconst (v := 0) hx hb dX6_isAbove_26 (by decide) ?_
        refine W.lcmp hx hb dX6_isAbove_27 ?_
        refine lv_if_eq (tgt := 122) hx hb dX6_isAbove_28 (by decide) (fun c_17 => ?_) (fun c_17 => ?_)
        · have h := it_p c_17 h
          cases h
          exact K _ _ _ _ _ rfl _ _ _ hP hD hS (lv_sub hl [0, 1, 3] rfl)
        · have h := it_n c_17 h
          refine lv_lload hx hb dX6_isAbove_31 (lv_at hl 4 rfl) ?_
          refine lv_lload hx hb dX6_isAbove_33 (lv_at hl 3 rfl) ?_
          obtain ⟨hz_18, h⟩ := dzL_s h
          refine lv_ldiv hx hb dX6_isAbove_35 hz_18 ?_
          refine lv_topl (fun j17_19 ej17_19 => ?_)
          have h := nm_s h j17_19 ej17_19
          refine lv_lstore (lv' := [(17, .long j17_19), (16, .int y16_6), (14, .long k14_7), (12, .long k12_8), (10, .long k10_9), (8, .long k8_10)]) hx hb dX6_isAbove_36 hl (by decide) rfl (fun ls hl => ?_)
          refine lv_lload hx hb dX6_isAbove_38 (lv_at hl 3 rfl) ?_
          refine lv_lload hx hb dX6_isAbove_40 (lv_at hl 2 rfl) ?_
          obtain ⟨hz_20, h⟩ := dzL_s h
          refine lv_ldiv hx hb dX6_isAbove_42 hz_20 ?_
          refine lv_topl (fun j19_21 ej19_21 => ?_)
          have h := nm_s h j19_21 ej19_21
          refine lv_lstore (lv' := [(19, .long j19_21), (17, .long j17_19), (16, .int y16_6), (14, .long k14_7), (12, .long k12_8), (10, .long k10_9), (8, .long k8_10)]) hx hb dX6_isAbove_43 hl (by decide) rfl (fun ls hl => ?_)
          refine lv_lload hx hb dX6_isAbove_45 (lv_at hl 1 rfl) ?_
          refine lv_lload hx hb dX6_isAbove_47 (lv_at hl 0 rfl) ?_
          refine W.lcmp hx hb dX6_isAbove_49 ?_
          refine lv_if_eq (tgt := 77) hx hb dX6_isAbove_50 (by decide) (fun c_22 => ?_) (fun c_22 => ?_)
          · have h := it_p c_22 h
            refine lv_lload hx hb dX6_isAbove_77 (lv_at hl 6 rfl) ?_
            refine lv_lload hx hb dX6_isAbove_79 (lv_at hl 5 rfl) ?_
            obtain ⟨hz_23, h⟩ := dzL_s h
            refine lv_lrem hx hb dX6_isAbove_81 hz_23 ?_
            refine lv_topl (fun j21_24 ej21_24 => ?_)
            have h := nm_s h j21_24 ej21_24
            refine lv_lstore (lv' := [(21, .long j21_24), (19, .long j19_21), (17, .long j17_19), (16, .int y16_6), (14, .long k14_7), (12, .long k12_8), (10, .long k10_9), (8, .long k8_10)]) hx hb dX6_isAbove_82 hl (by decide) rfl (fun ls hl => ?_)
            refine lv_lload hx hb dX6_isAbove_84 (lv_at hl 6 rfl) ?_
            refine lv_topl (fun j8_25 ej8_25 => ?_)
            have h := nm_s h j8_25 ej8_25
            refine lv_lstore (lv' := [(8, .long j8_25), (21, .long j21_24), (19, .long j19_21), (17, .long j17_19), (16, .int y16_6), (14, .long k14_7), (12, .long k12_8), (10, .long k10_9)]) hx hb dX6_isAbove_86 hl (by decide) rfl (fun ls hl => ?_)
            refine lv_lload hx hb dX6_isAbove_88 (lv_at hl 1 rfl) ?_
            refine lv_topl (fun j10_26 ej10_26 => ?_)
            have h := nm_s h j10_26 ej10_26
            refine lv_lstore (lv' := [(10, .long j10_26), (8, .long j8_25), (21, .long j21_24), (19, .long j19_21), (17, .long j17_19), (16, .int y16_6), (14, .long k14_7), (12, .long k12_8)]) hx hb dX6_isAbove_90 hl (by decide) rfl (fun ls hl => ?_)
            refine lv_lload hx hb dX6_isAbove_92 (lv_at hl 7 rfl) ?_
            refine lv_lload hx hb dX6_isAbove_94 (lv_at hl 6 rfl) ?_
            obtain ⟨hz_27, h⟩ := dzL_s h
            refine lv_lrem hx hb dX6_isAbove_96 hz_27 ?_
            refine lv_topl (fun j21_28 ej21_28 => ?_)
            have h := nm_s h j21_28 ej21_28
            refine lv_lstore (lv' := [(21, .long j21_28), (10, .long j10_26), (8, .long j8_25), (19, .long j19_21), (17, .long j17_19), (16, .int y16_6), (14, .long k14_7), (12, .long k12_8)]) hx hb dX6_isAbove_97 hl (by decide) rfl (fun ls hl => ?_)
            refine lv_lload hx hb dX6_isAbove_99 (lv_at hl 6 rfl) ?_
            refine lv_topl (fun j12_29 ej12_29 => ?_)
            have h := nm_s h j12_29 ej12_29
            refine lv_lstore (lv' := [(12, .long j12_29), (21, .long j21_28), (10, .long j10_26), (8, .long j8_25), (19, .long j19_21), (17, .long j17_19), (16, .int y16_6), (14, .long k14_7)]) hx hb dX6_isAbove_101 hl (by decide) rfl (fun ls hl => ?_)
            refine lv_lload hx hb dX6_isAbove_103 (lv_at hl 1 rfl) ?_
            refine lv_topl (fun j14_30 ej14_30 => ?_)
            have h := nm_s h j14_30 ej14_30
            refine lv_lstore (lv' := [(14, .long j14_30), (12, .long j12_29), (21, .long j21_28), (10, .long j10_26), (8, .long j8_25), (19, .long j19_21), (17, .long j17_19), (16, .int y16_6)]) hx hb dX6_isAbove_105 hl (by decide) rfl (fun ls hl => ?_)
            refine lv_iload hx hb dX6_isAbove_107 (lv_at hl 7 rfl) ?_
            refine lv_if_ne (tgt := 116) hx hb dX6_isAbove_109 (by decide) (fun c_31 => ?_) (fun c_31 => ?_)
            · have h := it_n c_31 h
              refine lv_iconst (v := 0) hx hb dX6_isAbove_116 (by decide) ?_
              refine lv_topi (fun x16_32 ex16_32 => ?_)
              have h := nm_s h x16_32 ex16_32
              refine lv_istore (lv' := [(16, .int x16_32), (14, .long j14_30), (12, .long j12_29), (21, .long j21_28), (10, .long j10_26), (8, .long j8_25), (19, .long j19_21), (17, .long j17_19)]) hx hb dX6_isAbove_117 hl (by decide) rfl (fun ls hl => ?_)
              refine lv_goto (tgt := 17) hx hb dX6_isAbove_119 (by decide) ?_
              exact ih _ _ _ _ _ _ h _ _ _ hP hD hS (lv_sub hl [0, 1, 2, 4, 5] rfl) KR K
            · have h := it_p c_31 h
              refine lv_iconst (v := 1) hx hb dX6_isAbove_112 (by decide) ?_
              refine lv_goto (tgt := 117) hx hb dX6_isAbove_113 (by decide) ?_
              refine lv_topi (fun x16_33 ex16_33 => ?_)
              have h := nm_s h x16_33 ex16_33
              refine lv_istore (lv' := [(16, .int x16_33), (14, .long j14_30), (12, .long j12_29), (21, .long j21_28), (10, .long j10_26), (8, .long j8_25), (19, .long j19_21), (17, .long j17_19)]) hx hb dX6_isAbove_117 hl (by decide) rfl (fun ls hl => ?_)
              refine lv_goto (tgt := 17) hx hb dX6_isAbove_119 (by decide) ?_
              exact ih _ _ _ _ _ _ h _ _ _ hP hD hS (lv_sub hl [0, 1, 2, 4, 5] rfl) KR K
          · have h := it_n c_22 h
            refine lv_lload hx hb dX6_isAbove_53 (lv_at hl 1 rfl) ?_
            refine lv_lload hx hb dX6_isAbove_55 (lv_at hl 0 rfl) ?_
            refine W.lcmp hx hb dX6_isAbove_57 ?_
            refine lv_if_le (tgt := 65) hx hb dX6_isAbove_58 (by decide) (fun c_34 => ?_) (fun c_34 => ?_)
            · have h := it_p c_34 h
              refine lv_iconst (v := 0) hx hb dX6_isAbove_65 (by decide) ?_
              refine lv_iload hx hb dX6_isAbove_66 (lv_at hl 2 rfl) ?_
              refine lv_icmp_eq (tgt := 75) hx hb dX6_isAbove_68 (by decide) (fun c_35 => ?_) (fun c_35 => ?_)
              · have h := it_p c_35 h
                refine lv_iconst (v := 0) hx hb dX6_isAbove_75 (by decide) ?_
                cases h
                have e9 := KR _ rfl
                cases e9
                exact hret _ _ _ _ (Or.inl rfl) hP hD hS dX6_isAbove_76
              · have h := it_n c_35 h
                refine lv_iconst (v := 1) hx hb dX6_isAbove_71 (by decide) ?_
                refine lv_goto (tgt := 76) hx hb dX6_isAbove_72 (by decide) ?_
                cases h
                have e9 := KR _ rfl
                cases e9
                exact hret _ _ _ _ (Or.inr rfl) hP hD hS dX6_isAbove_76
            · have h := it_n c_34 h
              refine lv_iconst (v := 1) hx hb dX6_isAbove_61 (by decide) ?_
              refine lv_goto (tgt := 66) hx hb dX6_isAbove_62 (by decide) ?_
              refine lv_iload hx hb dX6_isAbove_66 (lv_at hl 2 rfl) ?_
              refine lv_icmp_eq (tgt := 75) hx hb dX6_isAbove_68 (by decide) (fun c_36 => ?_) (fun c_36 => ?_)
              · have h := it_p c_36 h
                refine lv_iconst (v := 0) hx hb dX6_isAbove_75 (by decide) ?_
                cases h
                have e9 := KR _ rfl
                cases e9
                exact hret _ _ _ _ (Or.inl rfl) hP hD hS dX6_isAbove_76
              · have h := it_n c_36 h
                refine lv_iconst (v := 1) hx hb dX6_isAbove_71 (by decide) ?_
                refine lv_goto (tgt := 76) hx hb dX6_isAbove_72 (by decide) ?_
                cases h
                have e9 := KR _ rfl
                cases e9
                exact hret _ _ _ _ (Or.inr rfl) hP hD hS dX6_isAbove_76
  obtain ⟨res_47, hl_42, h⟩ := bd_s h
  refine L17 FU x16_5 j14_4 j12_3 j10_2 j8_1 _ hl_42 _ _ _ hP hD hS (lv_sub hl [0, 1, 2, 3, 4] rfl) (fun rt e9 => by subst e9; exact Option.some.inj h) (fun z16_37 z14_38 z12_39 z10_40 z8_41 e9 H locs ls hP hD hS hl => ?_)
  subst e9
  refine lv_lload hx hb dX6_isAbove_122 (lv_at hl 2 rfl) ?_
  refine lv_lload hx hb dX6_isAbove_124 (lv_at hl 1 rfl) ?_
  refine W.lcmp hx hb dX6_isAbove_126 ?_
  refine lv_if_ne (tgt := 134) hx hb dX6_isAbove_127 (by decide) (fun c_43 => ?_) (fun c_43 => ?_)
  · have h := it_n c_43 h
    refine lv_lload hx hb dX6_isAbove_134 (lv_at hl 2 rfl) ?_
    refine lv_lconst (v := 0) hx hb dX6_isAbove_136 (by decide) ?_
    refine W.lcmp hx hb dX6_isAbove_137 ?_
    refine lv_if_ne (tgt := 145) hx hb dX6_isAbove_138 (by decide) (fun c_44 => ?_) (fun c_44 => ?_)
    · have h := it_n c_44 h
      refine lv_iconst (v := 0) hx hb dX6_isAbove_145 (by decide) ?_
      refine lv_iload hx hb dX6_isAbove_146 (lv_at hl 0 rfl) ?_
      refine lv_icmp_eq (tgt := 155) hx hb dX6_isAbove_148 (by decide) (fun c_45 => ?_) (fun c_45 => ?_)
      · have h := it_p c_45 h
        refine lv_iconst (v := 0) hx hb dX6_isAbove_155 (by decide) ?_
        cases h
        exact hret _ _ _ _ (Or.inl rfl) hP hD hS dX6_isAbove_156
      · have h := it_n c_45 h
        refine lv_iconst (v := 1) hx hb dX6_isAbove_151 (by decide) ?_
        refine lv_goto (tgt := 156) hx hb dX6_isAbove_152 (by decide) ?_
        cases h
        exact hret _ _ _ _ (Or.inr rfl) hP hD hS dX6_isAbove_156
    · have h := it_p c_44 h
      refine lv_iconst (v := 1) hx hb dX6_isAbove_141 (by decide) ?_
      refine lv_goto (tgt := 146) hx hb dX6_isAbove_142 (by decide) ?_
      refine lv_iload hx hb dX6_isAbove_146 (lv_at hl 0 rfl) ?_
      refine lv_icmp_eq (tgt := 155) hx hb dX6_isAbove_148 (by decide) (fun c_46 => ?_) (fun c_46 => ?_)
      · have h := it_p c_46 h
        refine lv_iconst (v := 0) hx hb dX6_isAbove_155 (by decide) ?_
        cases h
        exact hret _ _ _ _ (Or.inl rfl) hP hD hS dX6_isAbove_156
      · have h := it_n c_46 h
        refine lv_iconst (v := 1) hx hb dX6_isAbove_151 (by decide) ?_
        refine lv_goto (tgt := 156) hx hb dX6_isAbove_152 (by decide) ?_
        cases h
        exact hret _ _ _ _ (Or.inr rfl) hP hD hS dX6_isAbove_156
  · have h := it_p c_43 h
    refine lv_iconst (v := 0) hx hb dX6_isAbove_130 (by decide) ?_
    refine lv_goto (tgt := 156) hx hb dX6_isAbove_131 (by decide) ?_
    cases h
    exact hret _ _ _ _ (Or.inl rfl) hP hD hS dX6_isAbove_156
def f_X6_isRow (i1 : Int32) (rows6 : Int32) : Option (Int32) :=
  Option.bind (f_X6_within i1 0 (rows6 - 1)) fun r_1 =>
  bz r_1 <|
  some r_1
set_option maxHeartbeats 4000000 in
set_option maxRecDepth 100000 in
theorem c_X6_isRow (l : Launch) (D : va_G) (cI cJ : ClassId) (h6 labels6a guesses6a comes6a sizes6a words6a told6a behind6a shares6a start6a move6a show6a signs6a many6a bestPath6a nextStart6a nextMove6a nextShow6a : Nat) (thrown6 : Int32) (rows6 : Int32) (labels6 : Nat → Int32) (guesses6 : Nat → Int32) (comes6 : Nat → Int32) (sizes6 : Nat → Int32) (words6 : Nat → Int32) (up6 : Int32) (down6 : Int32) (weightAbove6 : Int64) (weightBelow6 : Int64) (told6 : Nat → Int32) (length6 : Int32) (behind6 : Nat → Int32) (shares6 : Nat → Int64) (over6 : Int64) (start6 : Nat → Int32) (move6 : Nat → Int32) (show6 : Nat → Int32) (signs6 : Nat → Int32) (many6 : Nat → Int32) (bestPath6 : Nat → Int32) (nextStart6 : Nat → Int32) (nextMove6 : Nat → Int32) (nextShow6 : Nat → Int32) (i1 : Int32) (ret9 : Int32) (h : f_X6_isRow i1 rows6 = some ret9) : CI l D cI cJ yX6_isRow wsX6_isRow 1 22 [.ref h6, .int i1] (w6 cI cJ h6 labels6a guesses6a comes6a sizes6a words6a told6a behind6a shares6a start6a move6a show6a signs6a many6a bestPath6a nextStart6a nextMove6a nextShow6a thrown6 rows6 labels6 guesses6 comes6 sizes6 words6 up6 down6 weightAbove6 weightBelow6 told6 length6 behind6 shares6 over6 start6 move6 show6 signs6 many6 bestPath6 nextStart6 nextMove6 nextShow6) (w6 cI cJ h6 labels6a guesses6a comes6a sizes6a words6a told6a behind6a shares6a start6a move6a show6a signs6a many6a bestPath6a nextStart6a nextMove6a nextShow6a thrown6 rows6 labels6 guesses6 comes6 sizes6 words6 up6 down6 weightAbove6 weightBelow6 told6 length6 behind6 shares6 over6 start6 move6 show6 signs6 many6 bestPath6 nextStart6 nextMove6 nextShow6) ret9 := by
  refine entZ (cc := cX6_isRow) (maxL := 2) (by decide) rfl (Nat.le_of_ble_eq_true rfl) ?_
  intro p e s m args below meth c ls A Q X hret
  obtain ⟨hx, hb, hml, hts, hown, hK, hA, hP, hD, hS, hl, hnm⟩ := X
  have hown : s.vm.findClass RX6 = some m.cls := hown
  have hl : lv_has ls 2 [(0, .ref h6), (1, .int i1)] := hl
  have hw1 : (Cond.fieldLink RX6 76 "CountLearnersModel" "rows" "I").before args s = true := hts _ (by decide +kernel)
  have hinX6 : ∀ w ∈ wsX60, w ∈ wsX6_isRow := by decide +kernel
  unfold f_X6_isRow at h
  refine lv_iload_n hx hb dX6_isRow_0 rfl (lv_at hl 1 rfl) ?_
  refine lv_iconst (v := 0) hx hb dX6_isRow_1 (by decide) ?_
  refine lv_aload_n hx hb dX6_isRow_2 rfl (lv_at hl 0 rfl) ?_
  refine va_get (D := D) (ci := 5) (v := .int rows6) (C := RX6) (T := TX6) (N := 25) hx hb hts hinX6 hown hK.1 hP 0 rfl rfl 1 (by decide) hw1 (fun _ h9 => h9) rfl dX6_isRow_3 ?_
  refine lv_iconst (v := 1) hx hb dX6_isRow_6 (by decide) ?_
  refine lv_isub hx hb dX6_isRow_7 ?_
  obtain ⟨r_1, hc_2, h⟩ := bd_s h
  refine callPi (As := [.int i1, .int 0, .int (rows6 - 1)]) (rest := []) ⟨hx, hb, hml, hown, hts⟩ (c_X6_within l D cI cJ i1 0 (rows6 - 1) r_1 hc_2) (va_cwS 3 hts gX6_isRow_X6_within rfl rfl rfl (by decide +kernel) ⟨Nat.le_of_ble_eq_true rfl, Nat.le_of_ble_eq_true rfl⟩) hK hP hD hS hA rfl hl.1 rfl (Nat.le_of_ble_eq_true rfl) dX6_isRow_8 ⟨Nat.zero_le _, Nat.zero_le _⟩ (fun H locs hP hD hS => ?_)
  obtain ⟨hz_3, h⟩ := bz_s h
  cases h
  exact hret _ _ _ _ hz_3 hP hD hS dX6_isRow_11
def f_X6_forget_L2 : Nat → Int32 → (Nat → Int32) → Option (Int32 × (Nat → Int32))
  | 0, _, _ => none
  | n + 1, y1_2, guesses6_3 =>
  if 40 ≤ y1_2 then
    some (y1_2, guesses6_3)
  else
    sI 40 guesses6_3 y1_2 (-1) fun guesses6_8 =>
    nm (α := Int32) (y1_2 + 1) fun x1_9 =>
    f_X6_forget_L2 n x1_9 guesses6_8
def f_X6_forget (guesses6 : Nat → Int32) : Option ((Nat → Int32)) :=
  nm (α := Int32) (0) fun x1_1 =>
  Option.bind (f_X6_forget_L2 FU x1_1 guesses6) fun (z1_10, guesses6_11) =>
  some guesses6_11
set_option maxHeartbeats 4000000 in
set_option maxRecDepth 100000 in
theorem c_X6_forget (l : Launch) (D : va_G) (cI cJ : ClassId) (h6 labels6a guesses6a comes6a sizes6a words6a told6a behind6a shares6a start6a move6a show6a signs6a many6a bestPath6a nextStart6a nextMove6a nextShow6a : Nat) (thrown6 : Int32) (rows6 : Int32) (labels6 : Nat → Int32) (guesses6 : Nat → Int32) (comes6 : Nat → Int32) (sizes6 : Nat → Int32) (words6 : Nat → Int32) (up6 : Int32) (down6 : Int32) (weightAbove6 : Int64) (weightBelow6 : Int64) (told6 : Nat → Int32) (length6 : Int32) (behind6 : Nat → Int32) (shares6 : Nat → Int64) (over6 : Int64) (start6 : Nat → Int32) (move6 : Nat → Int32) (show6 : Nat → Int32) (signs6 : Nat → Int32) (many6 : Nat → Int32) (bestPath6 : Nat → Int32) (nextStart6 : Nat → Int32) (nextMove6 : Nat → Int32) (nextShow6 : Nat → Int32) (guesses6z : Nat → Int32) (h : f_X6_forget guesses6 = some guesses6z) : CV l D cI cJ yX6_forget wsX6_forget 0 0 [.ref h6] (w6 cI cJ h6 labels6a guesses6a comes6a sizes6a words6a told6a behind6a shares6a start6a move6a show6a signs6a many6a bestPath6a nextStart6a nextMove6a nextShow6a thrown6 rows6 labels6 guesses6 comes6 sizes6 words6 up6 down6 weightAbove6 weightBelow6 told6 length6 behind6 shares6 over6 start6 move6 show6 signs6 many6 bestPath6 nextStart6 nextMove6 nextShow6) (w6 cI cJ h6 labels6a guesses6a comes6a sizes6a words6a told6a behind6a shares6a start6a move6a show6a signs6a many6a bestPath6a nextStart6a nextMove6a nextShow6a thrown6 rows6 labels6 guesses6z comes6 sizes6 words6 up6 down6 weightAbove6 weightBelow6 told6 length6 behind6 shares6 over6 start6 move6 show6 signs6 many6 bestPath6 nextStart6 nextMove6 nextShow6) := by
  refine entV (cc := cX6_forget) (maxL := 2) (by decide) rfl (Nat.le_of_ble_eq_true rfl) ?_
  intro p e s m args below meth c ls A Q X hret
  obtain ⟨hx, hb, hml, hts, hown, hK, hA, hP, hD, hS, hl, hnm⟩ := X
  have hown : s.vm.findClass RX6 = some m.cls := hown
  have hl : lv_has ls 2 [(0, .ref h6)] := hl
  have hw1 : (Cond.fieldLink RX6 13 "CountLearnersModel" "guesses" "[I").before args s = true := hts _ (by decide +kernel)
  have hinX6 : ∀ w ∈ wsX60, w ∈ wsX6_forget := by decide +kernel
  unfold f_X6_forget at h
  refine lv_iconst (v := 0) hx hb dX6_forget_0 (by decide) ?_
  refine lv_topi (fun x1_1 ex1_1 => ?_)
  have h := nm_s h x1_1 ex1_1
  refine lv_istore_n (lv' := [(1, .int x1_1), (0, .ref h6)]) hx hb dX6_forget_1 rfl hl (by decide) rfl (fun ls hl => ?_)
  have L2 : ∀ (n : Nat) (y1_2 : Int32) (guesses6_3 : Nat → Int32) (z1_4 : Int32) (guesses6_5 : Nat → Int32), f_X6_forget_L2 n y1_2 guesses6_3 = some (z1_4, guesses6_5) → ∀ (H : Heap) (locs : List Loc) (ls : Array Slot), va_P D vwK (w6 cI cJ h6 labels6a guesses6a comes6a sizes6a words6a told6a behind6a shares6a start6a move6a show6a signs6a many6a bestPath6a nextStart6a nextMove6a nextShow6a thrown6 rows6 labels6 guesses6_3 comes6 sizes6 words6 up6 down6 weightAbove6 weightBelow6 told6 length6 behind6 shares6 over6 start6 move6 show6 signs6 many6 bestPath6 nextStart6 nextMove6 nextShow6) H → va_D A (w6 cI cJ h6 labels6a guesses6a comes6a sizes6a words6a told6a behind6a shares6a start6a move6a show6a signs6a many6a bestPath6a nextStart6a nextMove6a nextShow6a thrown6 rows6 labels6 guesses6_3 comes6 sizes6 words6 up6 down6 weightAbove6 weightBelow6 told6 length6 behind6 shares6 over6 start6 move6 show6 signs6 many6 bestPath6 nextStart6 nextMove6 nextShow6) → va_S A s.heap H locs → lv_has ls 2 [(1, .int y1_2), (0, .ref h6)] → (∀ (H : Heap) (locs : List Loc) (ls : Array Slot), va_P D vwK (w6 cI cJ h6 labels6a guesses6a comes6a sizes6a words6a told6a behind6a shares6a start6a move6a show6a signs6a many6a bestPath6a nextStart6a nextMove6a nextShow6a thrown6 rows6 labels6 guesses6_5 comes6 sizes6 words6 up6 down6 weightAbove6 weightBelow6 told6 length6 behind6 shares6 over6 start6 move6 show6 signs6 many6 bestPath6 nextStart6 nextMove6 nextShow6) H → va_D A (w6 cI cJ h6 labels6a guesses6a comes6a sizes6a words6a told6a behind6a shares6a start6a move6a show6a signs6a many6a bestPath6a nextStart6a nextMove6a nextShow6a thrown6 rows6 labels6 guesses6_5 comes6 sizes6 words6 up6 down6 weightAbove6 weightBelow6 told6 length6 behind6 shares6 over6 start6 move6 show6 signs6 many6 bestPath6 nextStart6 nextMove6 nextShow6) → va_S A s.heap H locs → lv_has ls 2 [] → W p l e (rmOf 0 0) s m args below meth c H locs 0 0 Q (F0 m 21 ls [])) → W p l e (rmOf 0 0) s m args below meth c H locs 0 0 Q (F0 m 2 ls []) := by
    intro n
    induction n with
    | zero => intro y1_2 guesses6_3 z1_4 guesses6_5 h; rw [f_X6_forget_L2.eq_1] at h; cases h
    | succ n ih =>
      intro y1_2 guesses6_3 z1_4 guesses6_5 h H locs ls hP hD hS hl K
      rw [f_X6_forget_L2.eq_2] at h
      refine lv_iload_n hx hb dX6_forget_2 rfl (lv_at hl 0 rfl) ?_
      refine lv_bipush (v := 40) hx hb dX6_forget_3 (by decide) ?_
      refine lv_icmp_ge (tgt := 21) hx hb dX6_forget_5 (by decide) (fun c_6 => ?_) (fun c_6 => ?_)
      · have h := it_p c_6 h
        cases h
        exact K _ _ _ hP hD hS (lv_sub hl [] rfl)
      · have h := it_n c_6 h
        refine lv_aload_n hx hb dX6_forget_8 rfl (lv_at hl 1 rfl) ?_
        refine va_get (D := D) (ci := 5) (v := .ref guesses6a) (C := RX6) (T := TX6) (N := 25) hx hb hts hinX6 hown hK.1 hP 0 rfl rfl 3 (by decide) hw1 (fun _ h9 => h9) rfl dX6_forget_9 ?_
        refine lv_iload_n hx hb dX6_forget_12 rfl (lv_at hl 0 rfl) ?_
        refine lv_iconst (v := (-1)) hx hb dX6_forget_13 (by decide) ?_
        obtain ⟨hi_7, h⟩ := sI_s h
        refine va_iast hx hb hK.1 hP hD hS 2 0 rfl rfl hi_7 dX6_forget_14 (fun H locs hP hD hS => ?_)
        obtain ⟨guesses6_8, eguesses6_8⟩ : ∃ z, z = upd guesses6_3 (Int32.toNatClampNeg y1_2) (-1) := ⟨_, rfl⟩
        have h := h guesses6_8 eguesses6_8
        rw [← eguesses6_8] at hP hD
        have hP : va_P D vwK (w6 cI cJ h6 labels6a guesses6a comes6a sizes6a words6a told6a behind6a shares6a start6a move6a show6a signs6a many6a bestPath6a nextStart6a nextMove6a nextShow6a thrown6 rows6 labels6 guesses6_8 comes6 sizes6 words6 up6 down6 weightAbove6 weightBelow6 told6 length6 behind6 shares6 over6 start6 move6 show6 signs6 many6 bestPath6 nextStart6 nextMove6 nextShow6) H := hP
        have hD : va_D A (w6 cI cJ h6 labels6a guesses6a comes6a sizes6a words6a told6a behind6a shares6a start6a move6a show6a signs6a many6a bestPath6a nextStart6a nextMove6a nextShow6a thrown6 rows6 labels6 guesses6_8 comes6 sizes6 words6 up6 down6 weightAbove6 weightBelow6 told6 length6 behind6 shares6 over6 start6 move6 show6 signs6 many6 bestPath6 nextStart6 nextMove6 nextShow6) := hD
        obtain ⟨x1_9, ex1_9⟩ : ∃ z : Int32, z = y1_2 + 1 := ⟨_, rfl⟩
        have h := nm_s h x1_9 ex1_9
        refine lv_iinc (v := x1_9) (lv' := [(1, .int x1_9), (0, .ref h6)]) hx hb dX6_forget_15 hl (k := 0) rfl (by rw [ex1_9]; rfl) (by decide) rfl (fun ls hl => ?_)
        refine lv_goto (tgt := 2) hx hb dX6_forget_18 (by decide) ?_
        exact ih _ _ _ _ h _ _ _ hP hD hS (lv_sub hl [0, 1] rfl) K
  obtain ⟨⟨z1_10, guesses6_11⟩, hl_12, h⟩ := bd_s h
  refine L2 FU x1_1 guesses6 _ _ hl_12 _ _ _ hP hD hS (lv_sub hl [0, 1] rfl) (fun H locs ls hP hD hS hl => ?_)
  cases h
  exact hret _ _ _ _ hP hD hS dX6_forget_21
def f_X6_mayBe (i0 : Int32) : Option (Int32) :=
  Option.bind (f_X6_within i0 (-1) 3) fun r_1 =>
  bz r_1 <|
  some r_1
set_option maxHeartbeats 4000000 in
set_option maxRecDepth 100000 in
theorem c_X6_mayBe (l : Launch) (D : va_G) (cI cJ : ClassId) (i0 : Int32) (ret9 : Int32) (h : f_X6_mayBe i0 = some ret9) : CI l D cI cJ yX6_mayBe wsX6_mayBe 1 22 [.int i0] [] [] ret9 := by
  refine entZ (cc := cX6_mayBe) (maxL := 1) (by decide) rfl (Nat.le_of_ble_eq_true rfl) ?_
  intro p e s m args below meth c ls A Q X hret
  obtain ⟨hx, hb, hml, hts, hown, hK, hA, hP, hD, hS, hl, hnm⟩ := X
  have hown : s.vm.findClass RX6 = some m.cls := hown
  have hl : lv_has ls 1 [(0, .int i0)] := hl
  unfold f_X6_mayBe at h
  refine lv_iload_n hx hb dX6_mayBe_0 rfl (lv_at hl 0 rfl) ?_
  refine lv_iconst (v := (-1)) hx hb dX6_mayBe_1 (by decide) ?_
  refine lv_iconst (v := 3) hx hb dX6_mayBe_2 (by decide) ?_
  obtain ⟨r_1, hc_2, h⟩ := bd_s h
  refine callPi (As := [.int i0, .int (-1), .int 3]) (rest := []) ⟨hx, hb, hml, hown, hts⟩ (c_X6_within l D cI cJ i0 (-1) 3 r_1 hc_2) (va_cwS 3 hts gX6_mayBe_X6_within rfl rfl rfl (by decide +kernel) ⟨Nat.le_of_ble_eq_true rfl, Nat.le_of_ble_eq_true rfl⟩) hK hP hD hS hA rfl hl.1 rfl (Nat.le_of_ble_eq_true rfl) dX6_mayBe_3 ⟨Nat.zero_le _, Nat.zero_le _⟩ (fun H locs hP hD hS => ?_)
  obtain ⟨hz_3, h⟩ := bz_s h
  cases h
  exact hret _ _ _ _ hz_3 hP hD hS dX6_mayBe_6
def f_X6_row (i1 : Int32) (thrown6 : Int32) (rows6 : Int32) (labels6 : Nat → Int32) (guesses6 : Nat → Int32) (sizes6 : Nat → Int32) : Option (Int32 × Int32 × Int32 × (Nat → Int32) × (Nat → Int32) × (Nat → Int32)) :=
  nm (α := Int32) (0) fun thrown6_1 =>
  Option.bind (f_X6_mayBe i1) fun r_2 =>
  if r_2 = 0 then
    some ((-2), thrown6_1, rows6, labels6, guesses6, sizes6)
  else
    if rows6 = 40 then
      some ((-3), thrown6_1, rows6, labels6, guesses6, sizes6)
    else
      sI 40 labels6 rows6 i1 fun labels6_7 =>
      sI 40 sizes6 rows6 0 fun sizes6_9 =>
      nm (α := Int32) ((rows6 + 1)) fun rows6_10 =>
      Option.bind (f_X6_forget guesses6) fun guesses6_11 =>
      some ((rows6_10 - 1), thrown6_1, rows6_10, labels6_7, guesses6_11, sizes6_9)
set_option maxHeartbeats 4000000 in
set_option maxRecDepth 100000 in
theorem c_X6_row (l : Launch) (D : va_G) (cI cJ : ClassId) (h6 labels6a guesses6a comes6a sizes6a words6a told6a behind6a shares6a start6a move6a show6a signs6a many6a bestPath6a nextStart6a nextMove6a nextShow6a : Nat) (thrown6 : Int32) (rows6 : Int32) (labels6 : Nat → Int32) (guesses6 : Nat → Int32) (comes6 : Nat → Int32) (sizes6 : Nat → Int32) (words6 : Nat → Int32) (up6 : Int32) (down6 : Int32) (weightAbove6 : Int64) (weightBelow6 : Int64) (told6 : Nat → Int32) (length6 : Int32) (behind6 : Nat → Int32) (shares6 : Nat → Int64) (over6 : Int64) (start6 : Nat → Int32) (move6 : Nat → Int32) (show6 : Nat → Int32) (signs6 : Nat → Int32) (many6 : Nat → Int32) (bestPath6 : Nat → Int32) (nextStart6 : Nat → Int32) (nextMove6 : Nat → Int32) (nextShow6 : Nat → Int32) (i1 : Int32) (ret9 : Int32) (thrown6z : Int32) (rows6z : Int32) (labels6z : Nat → Int32) (guesses6z : Nat → Int32) (sizes6z : Nat → Int32) (h : f_X6_row i1 thrown6 rows6 labels6 guesses6 sizes6 = some (ret9, thrown6z, rows6z, labels6z, guesses6z, sizes6z)) : CI l D cI cJ yX6_row wsX6_row 2 42 [.ref h6, .int i1] (w6 cI cJ h6 labels6a guesses6a comes6a sizes6a words6a told6a behind6a shares6a start6a move6a show6a signs6a many6a bestPath6a nextStart6a nextMove6a nextShow6a thrown6 rows6 labels6 guesses6 comes6 sizes6 words6 up6 down6 weightAbove6 weightBelow6 told6 length6 behind6 shares6 over6 start6 move6 show6 signs6 many6 bestPath6 nextStart6 nextMove6 nextShow6) (w6 cI cJ h6 labels6a guesses6a comes6a sizes6a words6a told6a behind6a shares6a start6a move6a show6a signs6a many6a bestPath6a nextStart6a nextMove6a nextShow6a thrown6z rows6z labels6z guesses6z comes6 sizes6z words6 up6 down6 weightAbove6 weightBelow6 told6 length6 behind6 shares6 over6 start6 move6 show6 signs6 many6 bestPath6 nextStart6 nextMove6 nextShow6) ret9 := by
  refine entI (cc := cX6_row) (maxL := 2) (by decide) rfl (Nat.le_of_ble_eq_true rfl) ?_
  intro p e s m args below meth c ls A Q X hret
  obtain ⟨hx, hb, hml, hts, hown, hK, hA, hP, hD, hS, hl, hnm⟩ := X
  have hown : s.vm.findClass RX6 = some m.cls := hown
  have hl : lv_has ls 2 [(0, .ref h6), (1, .int i1)] := hl
  have hw1 : (Cond.fieldLink RX6 69 "CountLearnersModel" "thrown" "I").before args s = true := hts _ (by decide +kernel)
  have hinX6 : ∀ w ∈ wsX60, w ∈ wsX6_row := by decide +kernel
  have hw3 : (Cond.fieldLink RX6 76 "CountLearnersModel" "rows" "I").before args s = true := hts _ (by decide +kernel)
  have hw4 : (Cond.fieldLink RX6 7 "CountLearnersModel" "labels" "[I").before args s = true := hts _ (by decide +kernel)
  have hw5 : (Cond.fieldLink RX6 19 "CountLearnersModel" "sizes" "[I").before args s = true := hts _ (by decide +kernel)
  unfold f_X6_row at h
  refine lv_aload_n hx hb dX6_row_0 rfl (lv_at hl 0 rfl) ?_
  refine lv_iconst (v := 0) hx hb dX6_row_1 (by decide) ?_
  refine lv_topi (fun thrown6_1 ethrown6_1 => ?_)
  have h := nm_s h thrown6_1 ethrown6_1
  refine va_put (D := D) (ci := 5) (v := .int thrown6_1) (ty := .int) (C := RX6) (T := TX6) (N := 25) hx hb hts hinX6 tyX6 tyX6_ok nmX6 hown hK.1 hP hD hS 0 rfl rfl 0 (by decide) hw1 (fun _ h9 => h9) rfl (by decide +kernel) rfl rfl (Nat.le_of_ble_eq_true rfl) dX6_row_2 (fun H locs hP hD hS => ?_)
  have hP : va_P D vwK (w6 cI cJ h6 labels6a guesses6a comes6a sizes6a words6a told6a behind6a shares6a start6a move6a show6a signs6a many6a bestPath6a nextStart6a nextMove6a nextShow6a thrown6_1 rows6 labels6 guesses6 comes6 sizes6 words6 up6 down6 weightAbove6 weightBelow6 told6 length6 behind6 shares6 over6 start6 move6 show6 signs6 many6 bestPath6 nextStart6 nextMove6 nextShow6) H := hP
  have hD : va_D A (w6 cI cJ h6 labels6a guesses6a comes6a sizes6a words6a told6a behind6a shares6a start6a move6a show6a signs6a many6a bestPath6a nextStart6a nextMove6a nextShow6a thrown6_1 rows6 labels6 guesses6 comes6 sizes6 words6 up6 down6 weightAbove6 weightBelow6 told6 length6 behind6 shares6 over6 start6 move6 show6 signs6 many6 bestPath6 nextStart6 nextMove6 nextShow6) := hD
  refine lv_iload_n hx hb dX6_row_5 rfl (lv_at hl 1 rfl) ?_
  obtain ⟨r_2, hc_3, h⟩ := bd_s h
  refine callPi (As := [.int i1]) (rest := []) ⟨hx, hb, hml, hown, hts⟩ (c_X6_mayBe l D cI cJ i1 r_2 hc_3) (va_cwS 1 hts gX6_row_X6_mayBe rfl rfl rfl (by decide +kernel) ⟨Nat.le_of_ble_eq_true rfl, Nat.le_of_ble_eq_true rfl⟩) hK hP hD hS hA rfl hl.1 rfl (Nat.le_of_ble_eq_true rfl) dX6_row_6 ⟨Nat.zero_le _, Nat.zero_le _⟩ (fun H locs hP hD hS => ?_)
  refine lv_if_ne (tgt := 15) hx hb dX6_row_9 (by decide) (fun c_4 => ?_) (fun c_4 => ?_)
  · have h := it_n c_4 h
    refine lv_aload_n hx hb dX6_row_15 rfl (lv_at hl 0 rfl) ?_
    refine va_get (D := D) (ci := 5) (v := .int rows6) (C := RX6) (T := TX6) (N := 25) hx hb hts hinX6 hown hK.1 hP 0 rfl rfl 1 (by decide) hw3 (fun _ h9 => h9) rfl dX6_row_16 ?_
    refine lv_bipush (v := 40) hx hb dX6_row_19 (by decide) ?_
    refine lv_icmp_ne (tgt := 27) hx hb dX6_row_21 (by decide) (fun c_5 => ?_) (fun c_5 => ?_)
    · have h := it_n c_5 h
      refine lv_aload_n hx hb dX6_row_27 rfl (lv_at hl 0 rfl) ?_
      refine va_get (D := D) (ci := 5) (v := .ref labels6a) (C := RX6) (T := TX6) (N := 25) hx hb hts hinX6 hown hK.1 hP 0 rfl rfl 2 (by decide) hw4 (fun _ h9 => h9) rfl dX6_row_28 ?_
      refine lv_aload_n hx hb dX6_row_31 rfl (lv_at hl 0 rfl) ?_
      refine va_get (D := D) (ci := 5) (v := .int rows6) (C := RX6) (T := TX6) (N := 25) hx hb hts hinX6 hown hK.1 hP 0 rfl rfl 1 (by decide) hw3 (fun _ h9 => h9) rfl dX6_row_32 ?_
      refine lv_iload_n hx hb dX6_row_35 rfl (lv_at hl 1 rfl) ?_
      obtain ⟨hi_6, h⟩ := sI_s h
      refine va_iast hx hb hK.1 hP hD hS 1 0 rfl rfl hi_6 dX6_row_36 (fun H locs hP hD hS => ?_)
      obtain ⟨labels6_7, elabels6_7⟩ : ∃ z, z = upd labels6 (Int32.toNatClampNeg rows6) i1 := ⟨_, rfl⟩
      have h := h labels6_7 elabels6_7
      rw [← elabels6_7] at hP hD
      have hP : va_P D vwK (w6 cI cJ h6 labels6a guesses6a comes6a sizes6a words6a told6a behind6a shares6a start6a move6a show6a signs6a many6a bestPath6a nextStart6a nextMove6a nextShow6a thrown6_1 rows6 labels6_7 guesses6 comes6 sizes6 words6 up6 down6 weightAbove6 weightBelow6 told6 length6 behind6 shares6 over6 start6 move6 show6 signs6 many6 bestPath6 nextStart6 nextMove6 nextShow6) H := hP
      have hD : va_D A (w6 cI cJ h6 labels6a guesses6a comes6a sizes6a words6a told6a behind6a shares6a start6a move6a show6a signs6a many6a bestPath6a nextStart6a nextMove6a nextShow6a thrown6_1 rows6 labels6_7 guesses6 comes6 sizes6 words6 up6 down6 weightAbove6 weightBelow6 told6 length6 behind6 shares6 over6 start6 move6 show6 signs6 many6 bestPath6 nextStart6 nextMove6 nextShow6) := hD
      refine lv_aload_n hx hb dX6_row_37 rfl (lv_at hl 0 rfl) ?_
      refine va_get (D := D) (ci := 5) (v := .ref sizes6a) (C := RX6) (T := TX6) (N := 25) hx hb hts hinX6 hown hK.1 hP 0 rfl rfl 5 (by decide) hw5 (fun _ h9 => h9) rfl dX6_row_38 ?_
      refine lv_aload_n hx hb dX6_row_41 rfl (lv_at hl 0 rfl) ?_
      refine va_get (D := D) (ci := 5) (v := .int rows6) (C := RX6) (T := TX6) (N := 25) hx hb hts hinX6 hown hK.1 hP 0 rfl rfl 1 (by decide) hw3 (fun _ h9 => h9) rfl dX6_row_42 ?_
      refine lv_iconst (v := 0) hx hb dX6_row_45 (by decide) ?_
      obtain ⟨hi_8, h⟩ := sI_s h
      refine va_iast hx hb hK.1 hP hD hS 4 0 rfl rfl hi_8 dX6_row_46 (fun H locs hP hD hS => ?_)
      obtain ⟨sizes6_9, esizes6_9⟩ : ∃ z, z = upd sizes6 (Int32.toNatClampNeg rows6) 0 := ⟨_, rfl⟩
      have h := h sizes6_9 esizes6_9
      rw [← esizes6_9] at hP hD
      have hP : va_P D vwK (w6 cI cJ h6 labels6a guesses6a comes6a sizes6a words6a told6a behind6a shares6a start6a move6a show6a signs6a many6a bestPath6a nextStart6a nextMove6a nextShow6a thrown6_1 rows6 labels6_7 guesses6 comes6 sizes6_9 words6 up6 down6 weightAbove6 weightBelow6 told6 length6 behind6 shares6 over6 start6 move6 show6 signs6 many6 bestPath6 nextStart6 nextMove6 nextShow6) H := hP
      have hD : va_D A (w6 cI cJ h6 labels6a guesses6a comes6a sizes6a words6a told6a behind6a shares6a start6a move6a show6a signs6a many6a bestPath6a nextStart6a nextMove6a nextShow6a thrown6_1 rows6 labels6_7 guesses6 comes6 sizes6_9 words6 up6 down6 weightAbove6 weightBelow6 told6 length6 behind6 shares6 over6 start6 move6 show6 signs6 many6 bestPath6 nextStart6 nextMove6 nextShow6) := hD
      refine lv_aload_n hx hb dX6_row_47 rfl (lv_at hl 0 rfl) ?_
      refine lv_dup hx hb dX6_row_48 rfl ?_
      refine va_get (D := D) (ci := 5) (v := .int rows6) (C := RX6) (T := TX6) (N := 25) hx hb hts hinX6 hown hK.1 hP 0 rfl rfl 1 (by decide) hw3 (fun _ h9 => h9) rfl dX6_row_49 ?_
      refine lv_iconst (v := 1) hx hb dX6_row_52 (by decide) ?_
      refine lv_iadd hx hb dX6_row_53 ?_
      refine lv_topi (fun rows6_10 erows6_10 => ?_)
      have h := nm_s h rows6_10 erows6_10
      refine va_put (D := D) (ci := 5) (v := .int rows6_10) (ty := .int) (C := RX6) (T := TX6) (N := 25) hx hb hts hinX6 tyX6 tyX6_ok nmX6 hown hK.1 hP hD hS 0 rfl rfl 1 (by decide) hw3 (fun _ h9 => h9) rfl (by decide +kernel) rfl rfl (Nat.le_of_ble_eq_true rfl) dX6_row_54 (fun H locs hP hD hS => ?_)
      have hP : va_P D vwK (w6 cI cJ h6 labels6a guesses6a comes6a sizes6a words6a told6a behind6a shares6a start6a move6a show6a signs6a many6a bestPath6a nextStart6a nextMove6a nextShow6a thrown6_1 rows6_10 labels6_7 guesses6 comes6 sizes6_9 words6 up6 down6 weightAbove6 weightBelow6 told6 length6 behind6 shares6 over6 start6 move6 show6 signs6 many6 bestPath6 nextStart6 nextMove6 nextShow6) H := hP
      have hD : va_D A (w6 cI cJ h6 labels6a guesses6a comes6a sizes6a words6a told6a behind6a shares6a start6a move6a show6a signs6a many6a bestPath6a nextStart6a nextMove6a nextShow6a thrown6_1 rows6_10 labels6_7 guesses6 comes6 sizes6_9 words6 up6 down6 weightAbove6 weightBelow6 told6 length6 behind6 shares6 over6 start6 move6 show6 signs6 many6 bestPath6 nextStart6 nextMove6 nextShow6) := hD
      refine lv_aload_n hx hb dX6_row_57 rfl (lv_at hl 0 rfl) ?_
      obtain ⟨guesses6_11, hc_12, h⟩ := bd_s h
      refine callTv (As := []) (rest := []) ⟨hx, hb, hml, hown, hts⟩ (c_X6_forget l D cI cJ h6 labels6a guesses6a comes6a sizes6a words6a told6a behind6a shares6a start6a move6a show6a signs6a many6a bestPath6a nextStart6a nextMove6a nextShow6a thrown6_1 rows6_10 labels6_7 guesses6 comes6 sizes6_9 words6 up6 down6 weightAbove6 weightBelow6 told6 length6 behind6 shares6 over6 start6 move6 show6 signs6 many6 bestPath6 nextStart6 nextMove6 nextShow6 guesses6_11 hc_12) (cwV 0 hts gX6_row_X6_forget rfl rfl rfl (by decide +kernel) ⟨Nat.le_of_ble_eq_true rfl, Nat.le_of_ble_eq_true rfl⟩) hK hP hD hS hA 0 5 rfl rfl rfl rfl hl.1 rfl (Nat.le_of_ble_eq_true rfl) dX6_row_58 ⟨Nat.zero_le _, Nat.zero_le _⟩ (fun H locs hP hD hS => ?_)
      refine lv_aload_n hx hb dX6_row_61 rfl (lv_at hl 0 rfl) ?_
      refine va_get (D := D) (ci := 5) (v := .int rows6_10) (C := RX6) (T := TX6) (N := 25) hx hb hts hinX6 hown hK.1 hP 0 rfl rfl 1 (by decide) hw3 (fun _ h9 => h9) rfl dX6_row_62 ?_
      refine lv_iconst (v := 1) hx hb dX6_row_65 (by decide) ?_
      refine lv_isub hx hb dX6_row_66 ?_
      cases h
      exact hret _ _ _ _ hP hD hS dX6_row_67
    · have h := it_p c_5 h
      refine lv_bipush (v := (-3)) hx hb dX6_row_24 (by decide) ?_
      cases h
      exact hret _ _ _ _ hP hD hS dX6_row_26
  · have h := it_p c_4 h
    refine lv_bipush (v := (-2)) hx hb dX6_row_12 (by decide) ?_
    cases h
    exact hret _ _ _ _ hP hD hS dX6_row_14
def f_X6_word (i1 : Int32) (i2 : Int32) (thrown6 : Int32) (rows6 : Int32) (guesses6 : Nat → Int32) (sizes6 : Nat → Int32) (words6 : Nat → Int32) : Option (Int32 × Int32 × (Nat → Int32) × (Nat → Int32) × (Nat → Int32)) :=
  nm (α := Int32) (0) fun thrown6_1 =>
  Option.bind (f_X6_isRow i1 rows6) fun r_2 =>
  if r_2 = 0 then
    some ((-2), thrown6_1, guesses6, sizes6, words6)
  else
    Option.bind (f_X6_within i2 0 7) fun r_5 =>
    if r_5 = 0 then
      some ((-2), thrown6_1, guesses6, sizes6, words6)
    else
      gA 40 sizes6 i1 fun v_9 =>
      if v_9 = 6 then
        some ((-3), thrown6_1, guesses6, sizes6, words6)
      else
        gA 40 sizes6 i1 fun v_12 =>
        sI 240 words6 ((6 * i1) + v_12) i2 fun words6_14 =>
        gA 40 sizes6 i1 fun v_16 =>
        sI 40 sizes6 i1 (v_16 + 1) fun sizes6_18 =>
        Option.bind (f_X6_forget guesses6) fun guesses6_19 =>
        gA 40 sizes6_18 i1 fun v_22 =>
        some (v_22, thrown6_1, guesses6_19, sizes6_18, words6_14)
set_option maxHeartbeats 4000000 in
set_option maxRecDepth 100000 in
theorem c_X6_word (l : Launch) (D : va_G) (cI cJ : ClassId) (h6 labels6a guesses6a comes6a sizes6a words6a told6a behind6a shares6a start6a move6a show6a signs6a many6a bestPath6a nextStart6a nextMove6a nextShow6a : Nat) (thrown6 : Int32) (rows6 : Int32) (labels6 : Nat → Int32) (guesses6 : Nat → Int32) (comes6 : Nat → Int32) (sizes6 : Nat → Int32) (words6 : Nat → Int32) (up6 : Int32) (down6 : Int32) (weightAbove6 : Int64) (weightBelow6 : Int64) (told6 : Nat → Int32) (length6 : Int32) (behind6 : Nat → Int32) (shares6 : Nat → Int64) (over6 : Int64) (start6 : Nat → Int32) (move6 : Nat → Int32) (show6 : Nat → Int32) (signs6 : Nat → Int32) (many6 : Nat → Int32) (bestPath6 : Nat → Int32) (nextStart6 : Nat → Int32) (nextMove6 : Nat → Int32) (nextShow6 : Nat → Int32) (i1 : Int32) (i2 : Int32) (ret9 : Int32) (thrown6z : Int32) (guesses6z : Nat → Int32) (sizes6z : Nat → Int32) (words6z : Nat → Int32) (h : f_X6_word i1 i2 thrown6 rows6 guesses6 sizes6 words6 = some (ret9, thrown6z, guesses6z, sizes6z, words6z)) : CI l D cI cJ yX6_word wsX6_word 2 43 [.ref h6, .int i1, .int i2] (w6 cI cJ h6 labels6a guesses6a comes6a sizes6a words6a told6a behind6a shares6a start6a move6a show6a signs6a many6a bestPath6a nextStart6a nextMove6a nextShow6a thrown6 rows6 labels6 guesses6 comes6 sizes6 words6 up6 down6 weightAbove6 weightBelow6 told6 length6 behind6 shares6 over6 start6 move6 show6 signs6 many6 bestPath6 nextStart6 nextMove6 nextShow6) (w6 cI cJ h6 labels6a guesses6a comes6a sizes6a words6a told6a behind6a shares6a start6a move6a show6a signs6a many6a bestPath6a nextStart6a nextMove6a nextShow6a thrown6z rows6 labels6 guesses6z comes6 sizes6z words6z up6 down6 weightAbove6 weightBelow6 told6 length6 behind6 shares6 over6 start6 move6 show6 signs6 many6 bestPath6 nextStart6 nextMove6 nextShow6) ret9 := by
  refine entI (cc := cX6_word) (maxL := 3) (by decide) rfl (Nat.le_of_ble_eq_true rfl) ?_
  intro p e s m args below meth c ls A Q X hret
  obtain ⟨hx, hb, hml, hts, hown, hK, hA, hP, hD, hS, hl, hnm⟩ := X
  have hown : s.vm.findClass RX6 = some m.cls := hown
  have hl : lv_has ls 3 [(0, .ref h6), (1, .int i1), (2, .int i2)] := hl
  have hw1 : (Cond.fieldLink RX6 69 "CountLearnersModel" "thrown" "I").before args s = true := hts _ (by decide +kernel)
  have hinX6 : ∀ w ∈ wsX60, w ∈ wsX6_word := by decide +kernel
  have hw3 : (Cond.fieldLink RX6 19 "CountLearnersModel" "sizes" "[I").before args s = true := hts _ (by decide +kernel)
  have hw4 : (Cond.fieldLink RX6 22 "CountLearnersModel" "words" "[I").before args s = true := hts _ (by decide +kernel)
  unfold f_X6_word at h
  refine lv_aload_n hx hb dX6_word_0 rfl (lv_at hl 0 rfl) ?_
  refine lv_iconst (v := 0) hx hb dX6_word_1 (by decide) ?_
  refine lv_topi (fun thrown6_1 ethrown6_1 => ?_)
  have h := nm_s h thrown6_1 ethrown6_1
  refine va_put (D := D) (ci := 5) (v := .int thrown6_1) (ty := .int) (C := RX6) (T := TX6) (N := 25) hx hb hts hinX6 tyX6 tyX6_ok nmX6 hown hK.1 hP hD hS 0 rfl rfl 0 (by decide) hw1 (fun _ h9 => h9) rfl (by decide +kernel) rfl rfl (Nat.le_of_ble_eq_true rfl) dX6_word_2 (fun H locs hP hD hS => ?_)
  have hP : va_P D vwK (w6 cI cJ h6 labels6a guesses6a comes6a sizes6a words6a told6a behind6a shares6a start6a move6a show6a signs6a many6a bestPath6a nextStart6a nextMove6a nextShow6a thrown6_1 rows6 labels6 guesses6 comes6 sizes6 words6 up6 down6 weightAbove6 weightBelow6 told6 length6 behind6 shares6 over6 start6 move6 show6 signs6 many6 bestPath6 nextStart6 nextMove6 nextShow6) H := hP
  have hD : va_D A (w6 cI cJ h6 labels6a guesses6a comes6a sizes6a words6a told6a behind6a shares6a start6a move6a show6a signs6a many6a bestPath6a nextStart6a nextMove6a nextShow6a thrown6_1 rows6 labels6 guesses6 comes6 sizes6 words6 up6 down6 weightAbove6 weightBelow6 told6 length6 behind6 shares6 over6 start6 move6 show6 signs6 many6 bestPath6 nextStart6 nextMove6 nextShow6) := hD
  refine lv_aload_n hx hb dX6_word_5 rfl (lv_at hl 0 rfl) ?_
  refine lv_iload_n hx hb dX6_word_6 rfl (lv_at hl 1 rfl) ?_
  obtain ⟨r_2, hc_3, h⟩ := bd_s h
  refine callTi (As := [.int i1]) (rest := []) ⟨hx, hb, hml, hown, hts⟩ (c_X6_isRow l D cI cJ h6 labels6a guesses6a comes6a sizes6a words6a told6a behind6a shares6a start6a move6a show6a signs6a many6a bestPath6a nextStart6a nextMove6a nextShow6a thrown6_1 rows6 labels6 guesses6 comes6 sizes6 words6 up6 down6 weightAbove6 weightBelow6 told6 length6 behind6 shares6 over6 start6 move6 show6 signs6 many6 bestPath6 nextStart6 nextMove6 nextShow6 i1 r_2 hc_3) (cwV 1 hts gX6_word_X6_isRow rfl rfl rfl (by decide +kernel) ⟨Nat.le_of_ble_eq_true rfl, Nat.le_of_ble_eq_true rfl⟩) hK hP hD hS hA 0 5 rfl rfl rfl rfl hl.1 rfl (Nat.le_of_ble_eq_true rfl) dX6_word_7 ⟨Nat.zero_le _, Nat.zero_le _⟩ (fun H locs hP hD hS => ?_)
  refine lv_if_eq (tgt := 23) hx hb dX6_word_10 (by decide) (fun c_4 => ?_) (fun c_4 => ?_)
  · have h := it_p c_4 h
    refine lv_bipush (v := (-2)) hx hb dX6_word_23 (by decide) ?_
    cases h
    exact hret _ _ _ _ hP hD hS dX6_word_25
  · have h := it_n c_4 h
    refine lv_iload_n hx hb dX6_word_13 rfl (lv_at hl 2 rfl) ?_
    refine lv_iconst (v := 0) hx hb dX6_word_14 (by decide) ?_
    refine lv_bipush (v := 7) hx hb dX6_word_15 (by decide) ?_
    obtain ⟨r_5, hc_6, h⟩ := bd_s h
    refine callPi (As := [.int i2, .int 0, .int 7]) (rest := []) ⟨hx, hb, hml, hown, hts⟩ (c_X6_within l D cI cJ i2 0 7 r_5 hc_6) (va_cwS 3 hts gX6_word_X6_within rfl rfl rfl (by decide +kernel) ⟨Nat.le_of_ble_eq_true rfl, Nat.le_of_ble_eq_true rfl⟩) hK hP hD hS hA rfl hl.1 rfl (Nat.le_of_ble_eq_true rfl) dX6_word_17 ⟨Nat.zero_le _, Nat.zero_le _⟩ (fun H locs hP hD hS => ?_)
    refine lv_if_ne (tgt := 26) hx hb dX6_word_20 (by decide) (fun c_7 => ?_) (fun c_7 => ?_)
    · have h := it_n c_7 h
      refine lv_aload_n hx hb dX6_word_26 rfl (lv_at hl 0 rfl) ?_
      refine va_get (D := D) (ci := 5) (v := .ref sizes6a) (C := RX6) (T := TX6) (N := 25) hx hb hts hinX6 hown hK.1 hP 0 rfl rfl 5 (by decide) hw3 (fun _ h9 => h9) rfl dX6_word_27 ?_
      refine lv_iload_n hx hb dX6_word_30 rfl (lv_at hl 1 rfl) ?_
      obtain ⟨hi_8, h⟩ := gA_s h
      refine va_iald hx hb hK.1 hP 4 0 rfl rfl hi_8 dX6_word_31 ?_
      refine lv_topi (fun v_9 ev_9 => ?_)
      have h := h v_9 ev_9
      refine lv_bipush (v := 6) hx hb dX6_word_32 (by decide) ?_
      refine lv_icmp_ne (tgt := 40) hx hb dX6_word_34 (by decide) (fun c_10 => ?_) (fun c_10 => ?_)
      · have h := it_n c_10 h
        refine lv_aload_n hx hb dX6_word_40 rfl (lv_at hl 0 rfl) ?_
        refine va_get (D := D) (ci := 5) (v := .ref words6a) (C := RX6) (T := TX6) (N := 25) hx hb hts hinX6 hown hK.1 hP 0 rfl rfl 6 (by decide) hw4 (fun _ h9 => h9) rfl dX6_word_41 ?_
        refine lv_bipush (v := 6) hx hb dX6_word_44 (by decide) ?_
        refine lv_iload_n hx hb dX6_word_46 rfl (lv_at hl 1 rfl) ?_
        refine lv_imul hx hb dX6_word_47 ?_
        refine lv_aload_n hx hb dX6_word_48 rfl (lv_at hl 0 rfl) ?_
        refine va_get (D := D) (ci := 5) (v := .ref sizes6a) (C := RX6) (T := TX6) (N := 25) hx hb hts hinX6 hown hK.1 hP 0 rfl rfl 5 (by decide) hw3 (fun _ h9 => h9) rfl dX6_word_49 ?_
        refine lv_iload_n hx hb dX6_word_52 rfl (lv_at hl 1 rfl) ?_
        obtain ⟨hi_11, h⟩ := gA_s h
        refine va_iald hx hb hK.1 hP 4 0 rfl rfl hi_11 dX6_word_53 ?_
        refine lv_topi (fun v_12 ev_12 => ?_)
        have h := h v_12 ev_12
        refine lv_iadd hx hb dX6_word_54 ?_
        refine lv_iload_n hx hb dX6_word_55 rfl (lv_at hl 2 rfl) ?_
        obtain ⟨hi_13, h⟩ := sI_s h
        refine va_iast hx hb hK.1 hP hD hS 5 0 rfl rfl hi_13 dX6_word_56 (fun H locs hP hD hS => ?_)
        obtain ⟨words6_14, ewords6_14⟩ : ∃ z, z = upd words6 (Int32.toNatClampNeg ((6 * i1) + v_12)) i2 := ⟨_, rfl⟩
        have h := h words6_14 ewords6_14
        rw [← ewords6_14] at hP hD
        have hP : va_P D vwK (w6 cI cJ h6 labels6a guesses6a comes6a sizes6a words6a told6a behind6a shares6a start6a move6a show6a signs6a many6a bestPath6a nextStart6a nextMove6a nextShow6a thrown6_1 rows6 labels6 guesses6 comes6 sizes6 words6_14 up6 down6 weightAbove6 weightBelow6 told6 length6 behind6 shares6 over6 start6 move6 show6 signs6 many6 bestPath6 nextStart6 nextMove6 nextShow6) H := hP
        have hD : va_D A (w6 cI cJ h6 labels6a guesses6a comes6a sizes6a words6a told6a behind6a shares6a start6a move6a show6a signs6a many6a bestPath6a nextStart6a nextMove6a nextShow6a thrown6_1 rows6 labels6 guesses6 comes6 sizes6 words6_14 up6 down6 weightAbove6 weightBelow6 told6 length6 behind6 shares6 over6 start6 move6 show6 signs6 many6 bestPath6 nextStart6 nextMove6 nextShow6) := hD
        refine lv_aload_n hx hb dX6_word_57 rfl (lv_at hl 0 rfl) ?_
        refine va_get (D := D) (ci := 5) (v := .ref sizes6a) (C := RX6) (T := TX6) (N := 25) hx hb hts hinX6 hown hK.1 hP 0 rfl rfl 5 (by decide) hw3 (fun _ h9 => h9) rfl dX6_word_58 ?_
        refine lv_iload_n hx hb dX6_word_61 rfl (lv_at hl 1 rfl) ?_
        refine lv_dup2_11 hx hb dX6_word_62 rfl rfl ?_
        obtain ⟨hi_15, h⟩ := gA_s h
        refine va_iald hx hb hK.1 hP 4 0 rfl rfl hi_15 dX6_word_63 ?_
        refine lv_topi (fun v_16 ev_16 => ?_)
        have h := h v_16 ev_16
        refine lv_iconst (v := 1) hx hb dX6_word_64 (by decide) ?_
        refine lv_iadd hx hb dX6_word_65 ?_
        obtain ⟨hi_17, h⟩ := sI_s h
        refine va_iast hx hb hK.1 hP hD hS 4 0 rfl rfl hi_17 dX6_word_66 (fun H locs hP hD hS => ?_)
        obtain ⟨sizes6_18, esizes6_18⟩ : ∃ z, z = upd sizes6 (Int32.toNatClampNeg i1) (v_16 + 1) := ⟨_, rfl⟩
        have h := h sizes6_18 esizes6_18
        rw [← esizes6_18] at hP hD
        have hP : va_P D vwK (w6 cI cJ h6 labels6a guesses6a comes6a sizes6a words6a told6a behind6a shares6a start6a move6a show6a signs6a many6a bestPath6a nextStart6a nextMove6a nextShow6a thrown6_1 rows6 labels6 guesses6 comes6 sizes6_18 words6_14 up6 down6 weightAbove6 weightBelow6 told6 length6 behind6 shares6 over6 start6 move6 show6 signs6 many6 bestPath6 nextStart6 nextMove6 nextShow6) H := hP
        have hD : va_D A (w6 cI cJ h6 labels6a guesses6a comes6a sizes6a words6a told6a behind6a shares6a start6a move6a show6a signs6a many6a bestPath6a nextStart6a nextMove6a nextShow6a thrown6_1 rows6 labels6 guesses6 comes6 sizes6_18 words6_14 up6 down6 weightAbove6 weightBelow6 told6 length6 behind6 shares6 over6 start6 move6 show6 signs6 many6 bestPath6 nextStart6 nextMove6 nextShow6) := hD
        refine lv_aload_n hx hb dX6_word_67 rfl (lv_at hl 0 rfl) ?_
        obtain ⟨guesses6_19, hc_20, h⟩ := bd_s h
        refine callTv (As := []) (rest := []) ⟨hx, hb, hml, hown, hts⟩ (c_X6_forget l D cI cJ h6 labels6a guesses6a comes6a sizes6a words6a told6a behind6a shares6a start6a move6a show6a signs6a many6a bestPath6a nextStart6a nextMove6a nextShow6a thrown6_1 rows6 labels6 guesses6 comes6 sizes6_18 words6_14 up6 down6 weightAbove6 weightBelow6 told6 length6 behind6 shares6 over6 start6 move6 show6 signs6 many6 bestPath6 nextStart6 nextMove6 nextShow6 guesses6_19 hc_20) (cwV 0 hts gX6_word_X6_forget rfl rfl rfl (by decide +kernel) ⟨Nat.le_of_ble_eq_true rfl, Nat.le_of_ble_eq_true rfl⟩) hK hP hD hS hA 0 5 rfl rfl rfl rfl hl.1 rfl (Nat.le_of_ble_eq_true rfl) dX6_word_68 ⟨Nat.zero_le _, Nat.zero_le _⟩ (fun H locs hP hD hS => ?_)
        refine lv_aload_n hx hb dX6_word_71 rfl (lv_at hl 0 rfl) ?_
        refine va_get (D := D) (ci := 5) (v := .ref sizes6a) (C := RX6) (T := TX6) (N := 25) hx hb hts hinX6 hown hK.1 hP 0 rfl rfl 5 (by decide) hw3 (fun _ h9 => h9) rfl dX6_word_72 ?_
        refine lv_iload_n hx hb dX6_word_75 rfl (lv_at hl 1 rfl) ?_
        obtain ⟨hi_21, h⟩ := gA_s h
        refine va_iald hx hb hK.1 hP 4 0 rfl rfl hi_21 dX6_word_76 ?_
        refine lv_topi (fun v_22 ev_22 => ?_)
        have h := h v_22 ev_22
        cases h
        exact hret _ _ _ _ hP hD hS dX6_word_77
      · have h := it_p c_10 h
        refine lv_bipush (v := (-3)) hx hb dX6_word_37 (by decide) ?_
        cases h
        exact hret _ _ _ _ hP hD hS dX6_word_39
    · have h := it_p c_7 h
      refine lv_bipush (v := (-2)) hx hb dX6_word_23 (by decide) ?_
      cases h
      exact hret _ _ _ _ hP hD hS dX6_word_25
def f_X6_label (i1 : Int32) (i2 : Int32) (thrown6 : Int32) (rows6 : Int32) (labels6 : Nat → Int32) (guesses6 : Nat → Int32) : Option (Int32 × Int32 × (Nat → Int32) × (Nat → Int32)) :=
  nm (α := Int32) (0) fun thrown6_1 =>
  Option.bind (f_X6_isRow i1 rows6) fun r_2 =>
  if r_2 = 0 then
    some ((-2), thrown6_1, labels6, guesses6)
  else
    Option.bind (f_X6_mayBe i2) fun r_5 =>
    if r_5 = 0 then
      some ((-2), thrown6_1, labels6, guesses6)
    else
      gA 40 labels6 i1 fun v_9 =>
      nm (α := Int32) (v_9) fun x3_10 =>
      sI 40 labels6 i1 i2 fun labels6_12 =>
      Option.bind (f_X6_forget guesses6) fun guesses6_13 =>
      some (x3_10, thrown6_1, labels6_12, guesses6_13)
set_option maxHeartbeats 4000000 in
set_option maxRecDepth 100000 in
theorem c_X6_label (l : Launch) (D : va_G) (cI cJ : ClassId) (h6 labels6a guesses6a comes6a sizes6a words6a told6a behind6a shares6a start6a move6a show6a signs6a many6a bestPath6a nextStart6a nextMove6a nextShow6a : Nat) (thrown6 : Int32) (rows6 : Int32) (labels6 : Nat → Int32) (guesses6 : Nat → Int32) (comes6 : Nat → Int32) (sizes6 : Nat → Int32) (words6 : Nat → Int32) (up6 : Int32) (down6 : Int32) (weightAbove6 : Int64) (weightBelow6 : Int64) (told6 : Nat → Int32) (length6 : Int32) (behind6 : Nat → Int32) (shares6 : Nat → Int64) (over6 : Int64) (start6 : Nat → Int32) (move6 : Nat → Int32) (show6 : Nat → Int32) (signs6 : Nat → Int32) (many6 : Nat → Int32) (bestPath6 : Nat → Int32) (nextStart6 : Nat → Int32) (nextMove6 : Nat → Int32) (nextShow6 : Nat → Int32) (i1 : Int32) (i2 : Int32) (ret9 : Int32) (thrown6z : Int32) (labels6z : Nat → Int32) (guesses6z : Nat → Int32) (h : f_X6_label i1 i2 thrown6 rows6 labels6 guesses6 = some (ret9, thrown6z, labels6z, guesses6z)) : CI l D cI cJ yX6_label wsX6_label 2 43 [.ref h6, .int i1, .int i2] (w6 cI cJ h6 labels6a guesses6a comes6a sizes6a words6a told6a behind6a shares6a start6a move6a show6a signs6a many6a bestPath6a nextStart6a nextMove6a nextShow6a thrown6 rows6 labels6 guesses6 comes6 sizes6 words6 up6 down6 weightAbove6 weightBelow6 told6 length6 behind6 shares6 over6 start6 move6 show6 signs6 many6 bestPath6 nextStart6 nextMove6 nextShow6) (w6 cI cJ h6 labels6a guesses6a comes6a sizes6a words6a told6a behind6a shares6a start6a move6a show6a signs6a many6a bestPath6a nextStart6a nextMove6a nextShow6a thrown6z rows6 labels6z guesses6z comes6 sizes6 words6 up6 down6 weightAbove6 weightBelow6 told6 length6 behind6 shares6 over6 start6 move6 show6 signs6 many6 bestPath6 nextStart6 nextMove6 nextShow6) ret9 := by
  refine entI (cc := cX6_label) (maxL := 4) (by decide) rfl (Nat.le_of_ble_eq_true rfl) ?_
  intro p e s m args below meth c ls A Q X hret
  obtain ⟨hx, hb, hml, hts, hown, hK, hA, hP, hD, hS, hl, hnm⟩ := X
  have hown : s.vm.findClass RX6 = some m.cls := hown
  have hl : lv_has ls 4 [(0, .ref h6), (1, .int i1), (2, .int i2)] := hl
  have hw1 : (Cond.fieldLink RX6 69 "CountLearnersModel" "thrown" "I").before args s = true := hts _ (by decide +kernel)
  have hinX6 : ∀ w ∈ wsX60, w ∈ wsX6_label := by decide +kernel
  have hw3 : (Cond.fieldLink RX6 7 "CountLearnersModel" "labels" "[I").before args s = true := hts _ (by decide +kernel)
  unfold f_X6_label at h
  refine lv_aload_n hx hb dX6_label_0 rfl (lv_at hl 0 rfl) ?_
  refine lv_iconst (v := 0) hx hb dX6_label_1 (by decide) ?_
  refine lv_topi (fun thrown6_1 ethrown6_1 => ?_)
  have h := nm_s h thrown6_1 ethrown6_1
  refine va_put (D := D) (ci := 5) (v := .int thrown6_1) (ty := .int) (C := RX6) (T := TX6) (N := 25) hx hb hts hinX6 tyX6 tyX6_ok nmX6 hown hK.1 hP hD hS 0 rfl rfl 0 (by decide) hw1 (fun _ h9 => h9) rfl (by decide +kernel) rfl rfl (Nat.le_of_ble_eq_true rfl) dX6_label_2 (fun H locs hP hD hS => ?_)
  have hP : va_P D vwK (w6 cI cJ h6 labels6a guesses6a comes6a sizes6a words6a told6a behind6a shares6a start6a move6a show6a signs6a many6a bestPath6a nextStart6a nextMove6a nextShow6a thrown6_1 rows6 labels6 guesses6 comes6 sizes6 words6 up6 down6 weightAbove6 weightBelow6 told6 length6 behind6 shares6 over6 start6 move6 show6 signs6 many6 bestPath6 nextStart6 nextMove6 nextShow6) H := hP
  have hD : va_D A (w6 cI cJ h6 labels6a guesses6a comes6a sizes6a words6a told6a behind6a shares6a start6a move6a show6a signs6a many6a bestPath6a nextStart6a nextMove6a nextShow6a thrown6_1 rows6 labels6 guesses6 comes6 sizes6 words6 up6 down6 weightAbove6 weightBelow6 told6 length6 behind6 shares6 over6 start6 move6 show6 signs6 many6 bestPath6 nextStart6 nextMove6 nextShow6) := hD
  refine lv_aload_n hx hb dX6_label_5 rfl (lv_at hl 0 rfl) ?_
  refine lv_iload_n hx hb dX6_label_6 rfl (lv_at hl 1 rfl) ?_
  obtain ⟨r_2, hc_3, h⟩ := bd_s h
  refine callTi (As := [.int i1]) (rest := []) ⟨hx, hb, hml, hown, hts⟩ (c_X6_isRow l D cI cJ h6 labels6a guesses6a comes6a sizes6a words6a told6a behind6a shares6a start6a move6a show6a signs6a many6a bestPath6a nextStart6a nextMove6a nextShow6a thrown6_1 rows6 labels6 guesses6 comes6 sizes6 words6 up6 down6 weightAbove6 weightBelow6 told6 length6 behind6 shares6 over6 start6 move6 show6 signs6 many6 bestPath6 nextStart6 nextMove6 nextShow6 i1 r_2 hc_3) (cwV 1 hts gX6_label_X6_isRow rfl rfl rfl (by decide +kernel) ⟨Nat.le_of_ble_eq_true rfl, Nat.le_of_ble_eq_true rfl⟩) hK hP hD hS hA 0 5 rfl rfl rfl rfl hl.1 rfl (Nat.le_of_ble_eq_true rfl) dX6_label_7 ⟨Nat.zero_le _, Nat.zero_le _⟩ (fun H locs hP hD hS => ?_)
  refine lv_if_eq (tgt := 20) hx hb dX6_label_10 (by decide) (fun c_4 => ?_) (fun c_4 => ?_)
  · have h := it_p c_4 h
    refine lv_bipush (v := (-2)) hx hb dX6_label_20 (by decide) ?_
    cases h
    exact hret _ _ _ _ hP hD hS dX6_label_22
  · have h := it_n c_4 h
    refine lv_iload_n hx hb dX6_label_13 rfl (lv_at hl 2 rfl) ?_
    obtain ⟨r_5, hc_6, h⟩ := bd_s h
    refine callPi (As := [.int i2]) (rest := []) ⟨hx, hb, hml, hown, hts⟩ (c_X6_mayBe l D cI cJ i2 r_5 hc_6) (va_cwS 1 hts gX6_label_X6_mayBe rfl rfl rfl (by decide +kernel) ⟨Nat.le_of_ble_eq_true rfl, Nat.le_of_ble_eq_true rfl⟩) hK hP hD hS hA rfl hl.1 rfl (Nat.le_of_ble_eq_true rfl) dX6_label_14 ⟨Nat.zero_le _, Nat.zero_le _⟩ (fun H locs hP hD hS => ?_)
    refine lv_if_ne (tgt := 23) hx hb dX6_label_17 (by decide) (fun c_7 => ?_) (fun c_7 => ?_)
    · have h := it_n c_7 h
      refine lv_aload_n hx hb dX6_label_23 rfl (lv_at hl 0 rfl) ?_
      refine va_get (D := D) (ci := 5) (v := .ref labels6a) (C := RX6) (T := TX6) (N := 25) hx hb hts hinX6 hown hK.1 hP 0 rfl rfl 2 (by decide) hw3 (fun _ h9 => h9) rfl dX6_label_24 ?_
      refine lv_iload_n hx hb dX6_label_27 rfl (lv_at hl 1 rfl) ?_
      obtain ⟨hi_8, h⟩ := gA_s h
      refine va_iald hx hb hK.1 hP 1 0 rfl rfl hi_8 dX6_label_28 ?_
      refine lv_topi (fun v_9 ev_9 => ?_)
      have h := h v_9 ev_9
      refine lv_topi (fun x3_10 ex3_10 => ?_)
      have h := nm_s h x3_10 ex3_10
      refine lv_istore_n (lv' := [(3, .int x3_10), (0, .ref h6), (1, .int i1), (2, .int i2)]) hx hb dX6_label_29 rfl hl (by decide) rfl (fun ls hl => ?_)
      refine lv_aload_n hx hb dX6_label_30 rfl (lv_at hl 1 rfl) ?_
      refine va_get (D := D) (ci := 5) (v := .ref labels6a) (C := RX6) (T := TX6) (N := 25) hx hb hts hinX6 hown hK.1 hP 0 rfl rfl 2 (by decide) hw3 (fun _ h9 => h9) rfl dX6_label_31 ?_
      refine lv_iload_n hx hb dX6_label_34 rfl (lv_at hl 2 rfl) ?_
      refine lv_iload_n hx hb dX6_label_35 rfl (lv_at hl 3 rfl) ?_
      obtain ⟨hi_11, h⟩ := sI_s h
      refine va_iast hx hb hK.1 hP hD hS 1 0 rfl rfl hi_11 dX6_label_36 (fun H locs hP hD hS => ?_)
      obtain ⟨labels6_12, elabels6_12⟩ : ∃ z, z = upd labels6 (Int32.toNatClampNeg i1) i2 := ⟨_, rfl⟩
      have h := h labels6_12 elabels6_12
      rw [← elabels6_12] at hP hD
      have hP : va_P D vwK (w6 cI cJ h6 labels6a guesses6a comes6a sizes6a words6a told6a behind6a shares6a start6a move6a show6a signs6a many6a bestPath6a nextStart6a nextMove6a nextShow6a thrown6_1 rows6 labels6_12 guesses6 comes6 sizes6 words6 up6 down6 weightAbove6 weightBelow6 told6 length6 behind6 shares6 over6 start6 move6 show6 signs6 many6 bestPath6 nextStart6 nextMove6 nextShow6) H := hP
      have hD : va_D A (w6 cI cJ h6 labels6a guesses6a comes6a sizes6a words6a told6a behind6a shares6a start6a move6a show6a signs6a many6a bestPath6a nextStart6a nextMove6a nextShow6a thrown6_1 rows6 labels6_12 guesses6 comes6 sizes6 words6 up6 down6 weightAbove6 weightBelow6 told6 length6 behind6 shares6 over6 start6 move6 show6 signs6 many6 bestPath6 nextStart6 nextMove6 nextShow6) := hD
      refine lv_aload_n hx hb dX6_label_37 rfl (lv_at hl 1 rfl) ?_
      obtain ⟨guesses6_13, hc_14, h⟩ := bd_s h
      refine callTv (As := []) (rest := []) ⟨hx, hb, hml, hown, hts⟩ (c_X6_forget l D cI cJ h6 labels6a guesses6a comes6a sizes6a words6a told6a behind6a shares6a start6a move6a show6a signs6a many6a bestPath6a nextStart6a nextMove6a nextShow6a thrown6_1 rows6 labels6_12 guesses6 comes6 sizes6 words6 up6 down6 weightAbove6 weightBelow6 told6 length6 behind6 shares6 over6 start6 move6 show6 signs6 many6 bestPath6 nextStart6 nextMove6 nextShow6 guesses6_13 hc_14) (cwV 0 hts gX6_label_X6_forget rfl rfl rfl (by decide +kernel) ⟨Nat.le_of_ble_eq_true rfl, Nat.le_of_ble_eq_true rfl⟩) hK hP hD hS hA 0 5 rfl rfl rfl rfl hl.1 rfl (Nat.le_of_ble_eq_true rfl) dX6_label_38 ⟨Nat.zero_le _, Nat.zero_le _⟩ (fun H locs hP hD hS => ?_)
      refine lv_iload_n hx hb dX6_label_41 rfl (lv_at hl 0 rfl) ?_
      cases h
      exact hret _ _ _ _ hP hD hS dX6_label_42
    · have h := it_p c_7 h
      refine lv_bipush (v := (-2)) hx hb dX6_label_20 (by decide) ?_
      cases h
      exact hret _ _ _ _ hP hD hS dX6_label_22
def f_X6_addition (i1 : Int32) (i2 : Int32) (thrown6 : Int32) (guesses6 : Nat → Int32) (up6 : Int32) (down6 : Int32) : Option (Int32 × Int32 × (Nat → Int32) × Int32 × Int32) :=
  nm (α := Int32) (0) fun thrown6_1 =>
  Option.bind (f_X6_within i1 0 3) fun r_2 =>
  if r_2 = 0 then
    some ((-2), thrown6_1, guesses6, up6, down6)
  else
    Option.bind (f_X6_within i2 1 3) fun r_5 =>
    if r_5 = 0 then
      some ((-2), thrown6_1, guesses6, up6, down6)
    else
      nm (α := Int32) (i1) fun up6_8 =>
      nm (α := Int32) (i2) fun down6_9 =>
      Option.bind (f_X6_forget guesses6) fun guesses6_10 =>
      some (1, thrown6_1, guesses6_10, up6_8, down6_9)
set_option maxHeartbeats 4000000 in
set_option maxRecDepth 100000 in
theorem c_X6_addition (l : Launch) (D : va_G) (cI cJ : ClassId) (h6 labels6a guesses6a comes6a sizes6a words6a told6a behind6a shares6a start6a move6a show6a signs6a many6a bestPath6a nextStart6a nextMove6a nextShow6a : Nat) (thrown6 : Int32) (rows6 : Int32) (labels6 : Nat → Int32) (guesses6 : Nat → Int32) (comes6 : Nat → Int32) (sizes6 : Nat → Int32) (words6 : Nat → Int32) (up6 : Int32) (down6 : Int32) (weightAbove6 : Int64) (weightBelow6 : Int64) (told6 : Nat → Int32) (length6 : Int32) (behind6 : Nat → Int32) (shares6 : Nat → Int64) (over6 : Int64) (start6 : Nat → Int32) (move6 : Nat → Int32) (show6 : Nat → Int32) (signs6 : Nat → Int32) (many6 : Nat → Int32) (bestPath6 : Nat → Int32) (nextStart6 : Nat → Int32) (nextMove6 : Nat → Int32) (nextShow6 : Nat → Int32) (i1 : Int32) (i2 : Int32) (ret9 : Int32) (thrown6z : Int32) (guesses6z : Nat → Int32) (up6z : Int32) (down6z : Int32) (h : f_X6_addition i1 i2 thrown6 guesses6 up6 down6 = some (ret9, thrown6z, guesses6z, up6z, down6z)) : CI l D cI cJ yX6_addition wsX6_addition 1 22 [.ref h6, .int i1, .int i2] (w6 cI cJ h6 labels6a guesses6a comes6a sizes6a words6a told6a behind6a shares6a start6a move6a show6a signs6a many6a bestPath6a nextStart6a nextMove6a nextShow6a thrown6 rows6 labels6 guesses6 comes6 sizes6 words6 up6 down6 weightAbove6 weightBelow6 told6 length6 behind6 shares6 over6 start6 move6 show6 signs6 many6 bestPath6 nextStart6 nextMove6 nextShow6) (w6 cI cJ h6 labels6a guesses6a comes6a sizes6a words6a told6a behind6a shares6a start6a move6a show6a signs6a many6a bestPath6a nextStart6a nextMove6a nextShow6a thrown6z rows6 labels6 guesses6z comes6 sizes6 words6 up6z down6z weightAbove6 weightBelow6 told6 length6 behind6 shares6 over6 start6 move6 show6 signs6 many6 bestPath6 nextStart6 nextMove6 nextShow6) ret9 := by
  refine entI (cc := cX6_addition) (maxL := 3) (by decide) rfl (Nat.le_of_ble_eq_true rfl) ?_
  intro p e s m args below meth c ls A Q X hret
  obtain ⟨hx, hb, hml, hts, hown, hK, hA, hP, hD, hS, hl, hnm⟩ := X
  have hown : s.vm.findClass RX6 = some m.cls := hown
  have hl : lv_has ls 3 [(0, .ref h6), (1, .int i1), (2, .int i2)] := hl
  have hw1 : (Cond.fieldLink RX6 69 "CountLearnersModel" "thrown" "I").before args s = true := hts _ (by decide +kernel)
  have hinX6 : ∀ w ∈ wsX60, w ∈ wsX6_addition := by decide +kernel
  have hw3 : (Cond.fieldLink RX6 25 "CountLearnersModel" "up" "I").before args s = true := hts _ (by decide +kernel)
  have hw4 : (Cond.fieldLink RX6 29 "CountLearnersModel" "down" "I").before args s = true := hts _ (by decide +kernel)
  unfold f_X6_addition at h
  refine lv_aload_n hx hb dX6_addition_0 rfl (lv_at hl 0 rfl) ?_
  refine lv_iconst (v := 0) hx hb dX6_addition_1 (by decide) ?_
  refine lv_topi (fun thrown6_1 ethrown6_1 => ?_)
  have h := nm_s h thrown6_1 ethrown6_1
  refine va_put (D := D) (ci := 5) (v := .int thrown6_1) (ty := .int) (C := RX6) (T := TX6) (N := 25) hx hb hts hinX6 tyX6 tyX6_ok nmX6 hown hK.1 hP hD hS 0 rfl rfl 0 (by decide) hw1 (fun _ h9 => h9) rfl (by decide +kernel) rfl rfl (Nat.le_of_ble_eq_true rfl) dX6_addition_2 (fun H locs hP hD hS => ?_)
  have hP : va_P D vwK (w6 cI cJ h6 labels6a guesses6a comes6a sizes6a words6a told6a behind6a shares6a start6a move6a show6a signs6a many6a bestPath6a nextStart6a nextMove6a nextShow6a thrown6_1 rows6 labels6 guesses6 comes6 sizes6 words6 up6 down6 weightAbove6 weightBelow6 told6 length6 behind6 shares6 over6 start6 move6 show6 signs6 many6 bestPath6 nextStart6 nextMove6 nextShow6) H := hP
  have hD : va_D A (w6 cI cJ h6 labels6a guesses6a comes6a sizes6a words6a told6a behind6a shares6a start6a move6a show6a signs6a many6a bestPath6a nextStart6a nextMove6a nextShow6a thrown6_1 rows6 labels6 guesses6 comes6 sizes6 words6 up6 down6 weightAbove6 weightBelow6 told6 length6 behind6 shares6 over6 start6 move6 show6 signs6 many6 bestPath6 nextStart6 nextMove6 nextShow6) := hD
  refine lv_iload_n hx hb dX6_addition_5 rfl (lv_at hl 1 rfl) ?_
  refine lv_iconst (v := 0) hx hb dX6_addition_6 (by decide) ?_
  refine lv_iconst (v := 3) hx hb dX6_addition_7 (by decide) ?_
  obtain ⟨r_2, hc_3, h⟩ := bd_s h
  refine callPi (As := [.int i1, .int 0, .int 3]) (rest := []) ⟨hx, hb, hml, hown, hts⟩ (c_X6_within l D cI cJ i1 0 3 r_2 hc_3) (va_cwS 3 hts gX6_addition_X6_within rfl rfl rfl (by decide +kernel) ⟨Nat.le_of_ble_eq_true rfl, Nat.le_of_ble_eq_true rfl⟩) hK hP hD hS hA rfl hl.1 rfl (Nat.le_of_ble_eq_true rfl) dX6_addition_8 ⟨Nat.zero_le _, Nat.zero_le _⟩ (fun H locs hP hD hS => ?_)
  refine lv_if_eq (tgt := 23) hx hb dX6_addition_11 (by decide) (fun c_4 => ?_) (fun c_4 => ?_)
  · have h := it_p c_4 h
    refine lv_bipush (v := (-2)) hx hb dX6_addition_23 (by decide) ?_
    cases h
    exact hret _ _ _ _ hP hD hS dX6_addition_25
  · have h := it_n c_4 h
    refine lv_iload_n hx hb dX6_addition_14 rfl (lv_at hl 2 rfl) ?_
    refine lv_iconst (v := 1) hx hb dX6_addition_15 (by decide) ?_
    refine lv_iconst (v := 3) hx hb dX6_addition_16 (by decide) ?_
    obtain ⟨r_5, hc_6, h⟩ := bd_s h
    refine callPi (As := [.int i2, .int 1, .int 3]) (rest := []) ⟨hx, hb, hml, hown, hts⟩ (c_X6_within l D cI cJ i2 1 3 r_5 hc_6) (va_cwS 3 hts gX6_addition_X6_within rfl rfl rfl (by decide +kernel) ⟨Nat.le_of_ble_eq_true rfl, Nat.le_of_ble_eq_true rfl⟩) hK hP hD hS hA rfl hl.1 rfl (Nat.le_of_ble_eq_true rfl) dX6_addition_17 ⟨Nat.zero_le _, Nat.zero_le _⟩ (fun H locs hP hD hS => ?_)
    refine lv_if_ne (tgt := 26) hx hb dX6_addition_20 (by decide) (fun c_7 => ?_) (fun c_7 => ?_)
    · have h := it_n c_7 h
      refine lv_aload_n hx hb dX6_addition_26 rfl (lv_at hl 0 rfl) ?_
      refine lv_iload_n hx hb dX6_addition_27 rfl (lv_at hl 1 rfl) ?_
      refine lv_topi (fun up6_8 eup6_8 => ?_)
      have h := nm_s h up6_8 eup6_8
      refine va_put (D := D) (ci := 5) (v := .int up6_8) (ty := .int) (C := RX6) (T := TX6) (N := 25) hx hb hts hinX6 tyX6 tyX6_ok nmX6 hown hK.1 hP hD hS 0 rfl rfl 7 (by decide) hw3 (fun _ h9 => h9) rfl (by decide +kernel) rfl rfl (Nat.le_of_ble_eq_true rfl) dX6_addition_28 (fun H locs hP hD hS => ?_)
      have hP : va_P D vwK (w6 cI cJ h6 labels6a guesses6a comes6a sizes6a words6a told6a behind6a shares6a start6a move6a show6a signs6a many6a bestPath6a nextStart6a nextMove6a nextShow6a thrown6_1 rows6 labels6 guesses6 comes6 sizes6 words6 up6_8 down6 weightAbove6 weightBelow6 told6 length6 behind6 shares6 over6 start6 move6 show6 signs6 many6 bestPath6 nextStart6 nextMove6 nextShow6) H := hP
      have hD : va_D A (w6 cI cJ h6 labels6a guesses6a comes6a sizes6a words6a told6a behind6a shares6a start6a move6a show6a signs6a many6a bestPath6a nextStart6a nextMove6a nextShow6a thrown6_1 rows6 labels6 guesses6 comes6 sizes6 words6 up6_8 down6 weightAbove6 weightBelow6 told6 length6 behind6 shares6 over6 start6 move6 show6 signs6 many6 bestPath6 nextStart6 nextMove6 nextShow6) := hD
      refine lv_aload_n hx hb dX6_addition_31 rfl (lv_at hl 0 rfl) ?_
      refine lv_iload_n hx hb dX6_addition_32 rfl (lv_at hl 2 rfl) ?_
      refine lv_topi (fun down6_9 edown6_9 => ?_)
      have h := nm_s h down6_9 edown6_9
      refine va_put (D := D) (ci := 5) (v := .int down6_9) (ty := .int) (C := RX6) (T := TX6) (N := 25) hx hb hts hinX6 tyX6 tyX6_ok nmX6 hown hK.1 hP hD hS 0 rfl rfl 8 (by decide) hw4 (fun _ h9 => h9) rfl (by decide +kernel) rfl rfl (Nat.le_of_ble_eq_true rfl) dX6_addition_33 (fun H locs hP hD hS => ?_)
      have hP : va_P D vwK (w6 cI cJ h6 labels6a guesses6a comes6a sizes6a words6a told6a behind6a shares6a start6a move6a show6a signs6a many6a bestPath6a nextStart6a nextMove6a nextShow6a thrown6_1 rows6 labels6 guesses6 comes6 sizes6 words6 up6_8 down6_9 weightAbove6 weightBelow6 told6 length6 behind6 shares6 over6 start6 move6 show6 signs6 many6 bestPath6 nextStart6 nextMove6 nextShow6) H := hP
      have hD : va_D A (w6 cI cJ h6 labels6a guesses6a comes6a sizes6a words6a told6a behind6a shares6a start6a move6a show6a signs6a many6a bestPath6a nextStart6a nextMove6a nextShow6a thrown6_1 rows6 labels6 guesses6 comes6 sizes6 words6 up6_8 down6_9 weightAbove6 weightBelow6 told6 length6 behind6 shares6 over6 start6 move6 show6 signs6 many6 bestPath6 nextStart6 nextMove6 nextShow6) := hD
      refine lv_aload_n hx hb dX6_addition_36 rfl (lv_at hl 0 rfl) ?_
      obtain ⟨guesses6_10, hc_11, h⟩ := bd_s h
      refine callTv (As := []) (rest := []) ⟨hx, hb, hml, hown, hts⟩ (c_X6_forget l D cI cJ h6 labels6a guesses6a comes6a sizes6a words6a told6a behind6a shares6a start6a move6a show6a signs6a many6a bestPath6a nextStart6a nextMove6a nextShow6a thrown6_1 rows6 labels6 guesses6 comes6 sizes6 words6 up6_8 down6_9 weightAbove6 weightBelow6 told6 length6 behind6 shares6 over6 start6 move6 show6 signs6 many6 bestPath6 nextStart6 nextMove6 nextShow6 guesses6_10 hc_11) (cwV 0 hts gX6_addition_X6_forget rfl rfl rfl (by decide +kernel) ⟨Nat.le_of_ble_eq_true rfl, Nat.le_of_ble_eq_true rfl⟩) hK hP hD hS hA 0 5 rfl rfl rfl rfl hl.1 rfl (Nat.le_of_ble_eq_true rfl) dX6_addition_37 ⟨Nat.zero_le _, Nat.zero_le _⟩ (fun H locs hP hD hS => ?_)
      refine lv_iconst (v := 1) hx hb dX6_addition_40 (by decide) ?_
      cases h
      exact hret _ _ _ _ hP hD hS dX6_addition_41
    · have h := it_p c_7 h
      refine lv_bipush (v := (-2)) hx hb dX6_addition_23 (by decide) ?_
      cases h
      exact hret _ _ _ _ hP hD hS dX6_addition_25
def f_X6_asLabel (i1 : Int32) (labels6 : Nat → Int32) (guesses6 : Nat → Int32) : Option (Int32) :=
  gA 40 labels6 i1 fun v_2 =>
  if v_2 < 0 then
    gA 40 guesses6 i1 fun v_5 =>
    some v_5
  else
    gA 40 labels6 i1 fun v_7 =>
    some v_7
set_option maxHeartbeats 4000000 in
set_option maxRecDepth 100000 in
theorem c_X6_asLabel (l : Launch) (D : va_G) (cI cJ : ClassId) (h6 labels6a guesses6a comes6a sizes6a words6a told6a behind6a shares6a start6a move6a show6a signs6a many6a bestPath6a nextStart6a nextMove6a nextShow6a : Nat) (thrown6 : Int32) (rows6 : Int32) (labels6 : Nat → Int32) (guesses6 : Nat → Int32) (comes6 : Nat → Int32) (sizes6 : Nat → Int32) (words6 : Nat → Int32) (up6 : Int32) (down6 : Int32) (weightAbove6 : Int64) (weightBelow6 : Int64) (told6 : Nat → Int32) (length6 : Int32) (behind6 : Nat → Int32) (shares6 : Nat → Int64) (over6 : Int64) (start6 : Nat → Int32) (move6 : Nat → Int32) (show6 : Nat → Int32) (signs6 : Nat → Int32) (many6 : Nat → Int32) (bestPath6 : Nat → Int32) (nextStart6 : Nat → Int32) (nextMove6 : Nat → Int32) (nextShow6 : Nat → Int32) (i1 : Int32) (ret9 : Int32) (h : f_X6_asLabel i1 labels6 guesses6 = some ret9) : CI l D cI cJ yX6_asLabel wsX6_asLabel 0 0 [.ref h6, .int i1] (w6 cI cJ h6 labels6a guesses6a comes6a sizes6a words6a told6a behind6a shares6a start6a move6a show6a signs6a many6a bestPath6a nextStart6a nextMove6a nextShow6a thrown6 rows6 labels6 guesses6 comes6 sizes6 words6 up6 down6 weightAbove6 weightBelow6 told6 length6 behind6 shares6 over6 start6 move6 show6 signs6 many6 bestPath6 nextStart6 nextMove6 nextShow6) (w6 cI cJ h6 labels6a guesses6a comes6a sizes6a words6a told6a behind6a shares6a start6a move6a show6a signs6a many6a bestPath6a nextStart6a nextMove6a nextShow6a thrown6 rows6 labels6 guesses6 comes6 sizes6 words6 up6 down6 weightAbove6 weightBelow6 told6 length6 behind6 shares6 over6 start6 move6 show6 signs6 many6 bestPath6 nextStart6 nextMove6 nextShow6) ret9 := by
  refine entI (cc := cX6_asLabel) (maxL := 2) (by decide) rfl (Nat.le_of_ble_eq_true rfl) ?_
  intro p e s m args below meth c ls A Q X hret
  obtain ⟨hx, hb, hml, hts, hown, hK, hA, hP, hD, hS, hl, hnm⟩ := X
  have hown : s.vm.findClass RX6 = some m.cls := hown
  have hl : lv_has ls 2 [(0, .ref h6), (1, .int i1)] := hl
  have hw1 : (Cond.fieldLink RX6 7 "CountLearnersModel" "labels" "[I").before args s = true := hts _ (by decide +kernel)
  have hinX6 : ∀ w ∈ wsX60, w ∈ wsX6_asLabel := by decide +kernel
  have hw3 : (Cond.fieldLink RX6 13 "CountLearnersModel" "guesses" "[I").before args s = true := hts _ (by decide +kernel)
  unfold f_X6_asLabel at h
  refine lv_aload_n hx hb dX6_asLabel_0 rfl (lv_at hl 0 rfl) ?_
  refine va_get (D := D) (ci := 5) (v := .ref labels6a) (C := RX6) (T := TX6) (N := 25) hx hb hts hinX6 hown hK.1 hP 0 rfl rfl 2 (by decide) hw1 (fun _ h9 => h9) rfl dX6_asLabel_1 ?_
  refine lv_iload_n hx hb dX6_asLabel_4 rfl (lv_at hl 1 rfl) ?_
  obtain ⟨hi_1, h⟩ := gA_s h
  refine va_iald hx hb hK.1 hP 1 0 rfl rfl hi_1 dX6_asLabel_5 ?_
  refine lv_topi (fun v_2 ev_2 => ?_)
  have h := h v_2 ev_2
  refine lv_if_lt (tgt := 18) hx hb dX6_asLabel_6 (by decide) (fun c_3 => ?_) (fun c_3 => ?_)
  · have h := it_p c_3 h
    refine lv_aload_n hx hb dX6_asLabel_18 rfl (lv_at hl 0 rfl) ?_
    refine va_get (D := D) (ci := 5) (v := .ref guesses6a) (C := RX6) (T := TX6) (N := 25) hx hb hts hinX6 hown hK.1 hP 0 rfl rfl 3 (by decide) hw3 (fun _ h9 => h9) rfl dX6_asLabel_19 ?_
    refine lv_iload_n hx hb dX6_asLabel_22 rfl (lv_at hl 1 rfl) ?_
    obtain ⟨hi_4, h⟩ := gA_s h
    refine va_iald hx hb hK.1 hP 2 0 rfl rfl hi_4 dX6_asLabel_23 ?_
    refine lv_topi (fun v_5 ev_5 => ?_)
    have h := h v_5 ev_5
    cases h
    exact hret _ _ _ _ hP hD hS dX6_asLabel_24
  · have h := it_n c_3 h
    refine lv_aload_n hx hb dX6_asLabel_9 rfl (lv_at hl 0 rfl) ?_
    refine va_get (D := D) (ci := 5) (v := .ref labels6a) (C := RX6) (T := TX6) (N := 25) hx hb hts hinX6 hown hK.1 hP 0 rfl rfl 2 (by decide) hw1 (fun _ h9 => h9) rfl dX6_asLabel_10 ?_
    refine lv_iload_n hx hb dX6_asLabel_13 rfl (lv_at hl 1 rfl) ?_
    obtain ⟨hi_6, h⟩ := gA_s h
    refine va_iald hx hb hK.1 hP 1 0 rfl rfl hi_6 dX6_asLabel_14 ?_
    refine lv_topi (fun v_7 ev_7 => ?_)
    have h := h v_7 ev_7
    refine lv_goto (tgt := 24) hx hb dX6_asLabel_15 (by decide) ?_
    cases h
    exact hret _ _ _ _ hP hD hS dX6_asLabel_24
def f_X6_rowsOf_L4 (i1 : Int32) (rows6 : Int32) (labels6 : Nat → Int32) (guesses6 : Nat → Int32) : Nat → Int32 → Int32 → Option (Int32 × Int32)
  | 0, _, _ => none
  | n + 1, y3_3, y2_4 =>
  if rows6 ≤ y3_3 then
    some (y3_3, y2_4)
  else
    Option.bind (f_X6_asLabel y3_3 labels6 guesses6) fun r_8 =>
    if r_8 = i1 then
      nm (α := Int32) ((y2_4 + 1)) fun x2_13 =>
      nm (α := Int32) (y3_3 + 1) fun x3_14 =>
      f_X6_rowsOf_L4 i1 rows6 labels6 guesses6 n x3_14 x2_13
    else
      nm (α := Int32) ((y2_4 + 0)) fun x2_11 =>
      nm (α := Int32) (y3_3 + 1) fun x3_12 =>
      f_X6_rowsOf_L4 i1 rows6 labels6 guesses6 n x3_12 x2_11
def f_X6_rowsOf (i1 : Int32) (rows6 : Int32) (labels6 : Nat → Int32) (guesses6 : Nat → Int32) : Option (Int32) :=
  nm (α := Int32) (0) fun x2_1 =>
  nm (α := Int32) (0) fun x3_2 =>
  Option.bind (f_X6_rowsOf_L4 i1 rows6 labels6 guesses6 FU x3_2 x2_1) fun (z3_15, z2_16) =>
  some z2_16
set_option maxHeartbeats 4000000 in
set_option maxRecDepth 100000 in
theorem c_X6_rowsOf (l : Launch) (D : va_G) (cI cJ : ClassId) (h6 labels6a guesses6a comes6a sizes6a words6a told6a behind6a shares6a start6a move6a show6a signs6a many6a bestPath6a nextStart6a nextMove6a nextShow6a : Nat) (thrown6 : Int32) (rows6 : Int32) (labels6 : Nat → Int32) (guesses6 : Nat → Int32) (comes6 : Nat → Int32) (sizes6 : Nat → Int32) (words6 : Nat → Int32) (up6 : Int32) (down6 : Int32) (weightAbove6 : Int64) (weightBelow6 : Int64) (told6 : Nat → Int32) (length6 : Int32) (behind6 : Nat → Int32) (shares6 : Nat → Int64) (over6 : Int64) (start6 : Nat → Int32) (move6 : Nat → Int32) (show6 : Nat → Int32) (signs6 : Nat → Int32) (many6 : Nat → Int32) (bestPath6 : Nat → Int32) (nextStart6 : Nat → Int32) (nextMove6 : Nat → Int32) (nextShow6 : Nat → Int32) (i1 : Int32) (ret9 : Int32) (h : f_X6_rowsOf i1 rows6 labels6 guesses6 = some ret9) : CI l D cI cJ yX6_rowsOf wsX6_rowsOf 1 21 [.ref h6, .int i1] (w6 cI cJ h6 labels6a guesses6a comes6a sizes6a words6a told6a behind6a shares6a start6a move6a show6a signs6a many6a bestPath6a nextStart6a nextMove6a nextShow6a thrown6 rows6 labels6 guesses6 comes6 sizes6 words6 up6 down6 weightAbove6 weightBelow6 told6 length6 behind6 shares6 over6 start6 move6 show6 signs6 many6 bestPath6 nextStart6 nextMove6 nextShow6) (w6 cI cJ h6 labels6a guesses6a comes6a sizes6a words6a told6a behind6a shares6a start6a move6a show6a signs6a many6a bestPath6a nextStart6a nextMove6a nextShow6a thrown6 rows6 labels6 guesses6 comes6 sizes6 words6 up6 down6 weightAbove6 weightBelow6 told6 length6 behind6 shares6 over6 start6 move6 show6 signs6 many6 bestPath6 nextStart6 nextMove6 nextShow6) ret9 := by
  refine entI (cc := cX6_rowsOf) (maxL := 4) (by decide) rfl (Nat.le_of_ble_eq_true rfl) ?_
  intro p e s m args below meth c ls A Q X hret
  obtain ⟨hx, hb, hml, hts, hown, hK, hA, hP, hD, hS, hl, hnm⟩ := X
  have hown : s.vm.findClass RX6 = some m.cls := hown
  have hl : lv_has ls 4 [(0, .ref h6), (1, .int i1)] := hl
  have hw1 : (Cond.fieldLink RX6 76 "CountLearnersModel" "rows" "I").before args s = true := hts _ (by decide +kernel)
  have hinX6 : ∀ w ∈ wsX60, w ∈ wsX6_rowsOf := by decide +kernel
  unfold f_X6_rowsOf at h
  refine lv_iconst (v := 0) hx hb dX6_rowsOf_0 (by decide) ?_
  refine lv_topi (fun x2_1 ex2_1 => ?_)
  have h := nm_s h x2_1 ex2_1
  refine lv_istore_n (lv' := [(2, .int x2_1), (0, .ref h6), (1, .int i1)]) hx hb dX6_rowsOf_1 rfl hl (by decide) rfl (fun ls hl => ?_)
  refine lv_iconst (v := 0) hx hb dX6_rowsOf_2 (by decide) ?_
  refine lv_topi (fun x3_2 ex3_2 => ?_)
  have h := nm_s h x3_2 ex3_2
  refine lv_istore_n (lv' := [(3, .int x3_2), (2, .int x2_1), (0, .ref h6), (1, .int i1)]) hx hb dX6_rowsOf_3 rfl hl (by decide) rfl (fun ls hl => ?_)
  have L4 : ∀ (n : Nat) (y3_3 : Int32) (y2_4 : Int32) (z3_5 : Int32) (z2_6 : Int32), f_X6_rowsOf_L4 i1 rows6 labels6 guesses6 n y3_3 y2_4 = some (z3_5, z2_6) → ∀ (H : Heap) (locs : List Loc) (ls : Array Slot), va_P D vwK (w6 cI cJ h6 labels6a guesses6a comes6a sizes6a words6a told6a behind6a shares6a start6a move6a show6a signs6a many6a bestPath6a nextStart6a nextMove6a nextShow6a thrown6 rows6 labels6 guesses6 comes6 sizes6 words6 up6 down6 weightAbove6 weightBelow6 told6 length6 behind6 shares6 over6 start6 move6 show6 signs6 many6 bestPath6 nextStart6 nextMove6 nextShow6) H → va_D A (w6 cI cJ h6 labels6a guesses6a comes6a sizes6a words6a told6a behind6a shares6a start6a move6a show6a signs6a many6a bestPath6a nextStart6a nextMove6a nextShow6a thrown6 rows6 labels6 guesses6 comes6 sizes6 words6 up6 down6 weightAbove6 weightBelow6 told6 length6 behind6 shares6 over6 start6 move6 show6 signs6 many6 bestPath6 nextStart6 nextMove6 nextShow6) → va_S A s.heap H locs → lv_has ls 4 [(3, .int y3_3), (2, .int y2_4), (0, .ref h6), (1, .int i1)] → (∀ (H : Heap) (locs : List Loc) (ls : Array Slot), va_P D vwK (w6 cI cJ h6 labels6a guesses6a comes6a sizes6a words6a told6a behind6a shares6a start6a move6a show6a signs6a many6a bestPath6a nextStart6a nextMove6a nextShow6a thrown6 rows6 labels6 guesses6 comes6 sizes6 words6 up6 down6 weightAbove6 weightBelow6 told6 length6 behind6 shares6 over6 start6 move6 show6 signs6 many6 bestPath6 nextStart6 nextMove6 nextShow6) H → va_D A (w6 cI cJ h6 labels6a guesses6a comes6a sizes6a words6a told6a behind6a shares6a start6a move6a show6a signs6a many6a bestPath6a nextStart6a nextMove6a nextShow6a thrown6 rows6 labels6 guesses6 comes6 sizes6 words6 up6 down6 weightAbove6 weightBelow6 told6 length6 behind6 shares6 over6 start6 move6 show6 signs6 many6 bestPath6 nextStart6 nextMove6 nextShow6) → va_S A s.heap H locs → lv_has ls 4 [(2, .int z2_6)] → W p l e (rmOf 1 21) s m args below meth c H locs 0 0 Q (F0 m 35 ls [])) → W p l e (rmOf 1 21) s m args below meth c H locs 0 0 Q (F0 m 4 ls []) := by
    intro n
    induction n with
    | zero => intro y3_3 y2_4 z3_5 z2_6 h; rw [f_X6_rowsOf_L4.eq_1] at h; cases h
    | succ n ih =>
      intro y3_3 y2_4 z3_5 z2_6 h H locs ls hP hD hS hl K
      rw [f_X6_rowsOf_L4.eq_2] at h
      refine lv_iload_n hx hb dX6_rowsOf_4 rfl (lv_at hl 0 rfl) ?_
      refine lv_aload_n hx hb dX6_rowsOf_5 rfl (lv_at hl 2 rfl) ?_
      refine va_get (D := D) (ci := 5) (v := .int rows6) (C := RX6) (T := TX6) (N := 25) hx hb hts hinX6 hown hK.1 hP 0 rfl rfl 1 (by decide) hw1 (fun _ h9 => h9) rfl dX6_rowsOf_6 ?_
      refine lv_icmp_ge (tgt := 35) hx hb dX6_rowsOf_9 (by decide) (fun c_7 => ?_) (fun c_7 => ?_)
      · have h := it_p c_7 h
        cases h
        exact K _ _ _ hP hD hS (lv_sub hl [1] rfl)
      · have h := it_n c_7 h
        refine lv_iload_n hx hb dX6_rowsOf_12 rfl (lv_at hl 1 rfl) ?_
        refine lv_aload_n hx hb dX6_rowsOf_13 rfl (lv_at hl 2 rfl) ?_
        refine lv_iload_n hx hb dX6_rowsOf_14 rfl (lv_at hl 0 rfl) ?_
        obtain ⟨r_8, hc_9, h⟩ := bd_s h
        refine callTi (As := [.int y3_3]) (rest := [.int y2_4]) ⟨hx, hb, hml, hown, hts⟩ (c_X6_asLabel l D cI cJ h6 labels6a guesses6a comes6a sizes6a words6a told6a behind6a shares6a start6a move6a show6a signs6a many6a bestPath6a nextStart6a nextMove6a nextShow6a thrown6 rows6 labels6 guesses6 comes6 sizes6 words6 up6 down6 weightAbove6 weightBelow6 told6 length6 behind6 shares6 over6 start6 move6 show6 signs6 many6 bestPath6 nextStart6 nextMove6 nextShow6 y3_3 r_8 hc_9) (cwV 1 hts gX6_rowsOf_X6_asLabel rfl rfl rfl (by decide +kernel) ⟨Nat.le_of_ble_eq_true rfl, Nat.le_of_ble_eq_true rfl⟩) hK hP hD hS hA 0 5 rfl rfl rfl rfl hl.1 rfl (Nat.le_of_ble_eq_true rfl) dX6_rowsOf_15 ⟨Nat.zero_le _, Nat.zero_le _⟩ (fun H locs hP hD hS => ?_)
        refine lv_iload_n hx hb dX6_rowsOf_18 rfl (lv_at hl 3 rfl) ?_
        refine lv_icmp_ne (tgt := 26) hx hb dX6_rowsOf_19 (by decide) (fun c_10 => ?_) (fun c_10 => ?_)
        · have h := it_n c_10 h
          refine lv_iconst (v := 0) hx hb dX6_rowsOf_26 (by decide) ?_
          refine lv_iadd hx hb dX6_rowsOf_27 ?_
          refine lv_topi (fun x2_11 ex2_11 => ?_)
          have h := nm_s h x2_11 ex2_11
          refine lv_istore_n (lv' := [(2, .int x2_11), (3, .int y3_3), (0, .ref h6), (1, .int i1)]) hx hb dX6_rowsOf_28 rfl hl (by decide) rfl (fun ls hl => ?_)
          obtain ⟨x3_12, ex3_12⟩ : ∃ z : Int32, z = y3_3 + 1 := ⟨_, rfl⟩
          have h := nm_s h x3_12 ex3_12
          refine lv_iinc (v := x3_12) (lv' := [(3, .int x3_12), (2, .int x2_11), (0, .ref h6), (1, .int i1)]) hx hb dX6_rowsOf_29 hl (k := 1) rfl (by rw [ex3_12]; rfl) (by decide) rfl (fun ls hl => ?_)
          refine lv_goto (tgt := 4) hx hb dX6_rowsOf_32 (by decide) ?_
          exact ih _ _ _ _ h _ _ _ hP hD hS (lv_sub hl [0, 1, 2, 3] rfl) K
        · have h := it_p c_10 h
          refine lv_iconst (v := 1) hx hb dX6_rowsOf_22 (by decide) ?_
          refine lv_goto (tgt := 27) hx hb dX6_rowsOf_23 (by decide) ?_
          refine lv_iadd hx hb dX6_rowsOf_27 ?_
          refine lv_topi (fun x2_13 ex2_13 => ?_)
          have h := nm_s h x2_13 ex2_13
          refine lv_istore_n (lv' := [(2, .int x2_13), (3, .int y3_3), (0, .ref h6), (1, .int i1)]) hx hb dX6_rowsOf_28 rfl hl (by decide) rfl (fun ls hl => ?_)
          obtain ⟨x3_14, ex3_14⟩ : ∃ z : Int32, z = y3_3 + 1 := ⟨_, rfl⟩
          have h := nm_s h x3_14 ex3_14
          refine lv_iinc (v := x3_14) (lv' := [(3, .int x3_14), (2, .int x2_13), (0, .ref h6), (1, .int i1)]) hx hb dX6_rowsOf_29 hl (k := 1) rfl (by rw [ex3_14]; rfl) (by decide) rfl (fun ls hl => ?_)
          refine lv_goto (tgt := 4) hx hb dX6_rowsOf_32 (by decide) ?_
          exact ih _ _ _ _ h _ _ _ hP hD hS (lv_sub hl [0, 1, 2, 3] rfl) K
  obtain ⟨⟨z3_15, z2_16⟩, hl_17, h⟩ := bd_s h
  refine L4 FU x3_2 x2_1 _ _ hl_17 _ _ _ hP hD hS (lv_sub hl [0, 1, 2, 3] rfl) (fun H locs ls hP hD hS hl => ?_)
  refine lv_iload_n hx hb dX6_rowsOf_35 rfl (lv_at hl 0 rfl) ?_
  cases h
  exact hret _ _ _ _ hP hD hS dX6_rowsOf_36
def f_X6_timesOf_L17 (y4_3 : Int32) (i1 : Int32) (i2 : Int32) (labels6 : Nat → Int32) (guesses6 : Nat → Int32) (sizes6 : Nat → Int32) (words6 : Nat → Int32) : Nat → Int32 → Int32 → Option (Int32 × Int32)
  | 0, _, _ => none
  | n + 1, y5_9, y3_10 =>
  gA 40 sizes6 y4_3 fun v_14 =>
  if v_14 ≤ y5_9 then
    some (y5_9, y3_10)
  else
    Option.bind (f_X6_asLabel y4_3 labels6 guesses6) fun r_16 =>
    if r_16 = i1 then
      if i2 = (-1) then
        nm (α := Int32) ((y3_10 + 1)) fun x3_20 =>
        nm (α := Int32) (y5_9 + 1) fun x5_21 =>
        f_X6_timesOf_L17 y4_3 i1 i2 labels6 guesses6 sizes6 words6 n x5_21 x3_20
      else
        gA 240 words6 ((6 * y4_3) + y5_9) fun v_23 =>
        if v_23 = i2 then
          nm (α := Int32) ((y3_10 + 1)) fun x3_27 =>
          nm (α := Int32) (y5_9 + 1) fun x5_28 =>
          f_X6_timesOf_L17 y4_3 i1 i2 labels6 guesses6 sizes6 words6 n x5_28 x3_27
        else
          nm (α := Int32) ((y3_10 + 0)) fun x3_25 =>
          nm (α := Int32) (y5_9 + 1) fun x5_26 =>
          f_X6_timesOf_L17 y4_3 i1 i2 labels6 guesses6 sizes6 words6 n x5_26 x3_25
    else
      some (y5_9, y3_10)
def f_X6_timesOf_L5 (i1 : Int32) (i2 : Int32) (rows6 : Int32) (labels6 : Nat → Int32) (guesses6 : Nat → Int32) (sizes6 : Nat → Int32) (words6 : Nat → Int32) : Nat → Int32 → Int32 → Option (Int32 × Int32)
  | 0, _, _ => none
  | n + 1, y4_3, y3_4 =>
  if rows6 ≤ y4_3 then
    some (y4_3, y3_4)
  else
    nm (α := Int32) (0) fun x5_8 =>
    Option.bind (f_X6_timesOf_L17 y4_3 i1 i2 labels6 guesses6 sizes6 words6 FU x5_8 y3_4) fun (z5_29, z3_30) =>
    nm (α := Int32) (y4_3 + 1) fun x4_32 =>
    f_X6_timesOf_L5 i1 i2 rows6 labels6 guesses6 sizes6 words6 n x4_32 z3_30
def f_X6_timesOf (i1 : Int32) (i2 : Int32) (rows6 : Int32) (labels6 : Nat → Int32) (guesses6 : Nat → Int32) (sizes6 : Nat → Int32) (words6 : Nat → Int32) : Option (Int32) :=
  nm (α := Int32) (0) fun x3_1 =>
  nm (α := Int32) (0) fun x4_2 =>
  Option.bind (f_X6_timesOf_L5 i1 i2 rows6 labels6 guesses6 sizes6 words6 FU x4_2 x3_1) fun (z4_33, z3_34) =>
  some z3_34
set_option maxHeartbeats 4000000 in
set_option maxRecDepth 100000 in
theorem c_X6_timesOf (l : Launch) (D : va_G) (cI cJ : ClassId) (h6 labels6a guesses6a comes6a sizes6a words6a told6a behind6a shares6a start6a move6a show6a signs6a many6a bestPath6a nextStart6a nextMove6a nextShow6a : Nat) (thrown6 : Int32) (rows6 : Int32) (labels6 : Nat → Int32) (guesses6 : Nat → Int32) (comes6 : Nat → Int32) (sizes6 : Nat → Int32) (words6 : Nat → Int32) (up6 : Int32) (down6 : Int32) (weightAbove6 : Int64) (weightBelow6 : Int64) (told6 : Nat → Int32) (length6 : Int32) (behind6 : Nat → Int32) (shares6 : Nat → Int64) (over6 : Int64) (start6 : Nat → Int32) (move6 : Nat → Int32) (show6 : Nat → Int32) (signs6 : Nat → Int32) (many6 : Nat → Int32) (bestPath6 : Nat → Int32) (nextStart6 : Nat → Int32) (nextMove6 : Nat → Int32) (nextShow6 : Nat → Int32) (i1 : Int32) (i2 : Int32) (ret9 : Int32) (h : f_X6_timesOf i1 i2 rows6 labels6 guesses6 sizes6 words6 = some ret9) : CI l D cI cJ yX6_timesOf wsX6_timesOf 1 21 [.ref h6, .int i1, .int i2] (w6 cI cJ h6 labels6a guesses6a comes6a sizes6a words6a told6a behind6a shares6a start6a move6a show6a signs6a many6a bestPath6a nextStart6a nextMove6a nextShow6a thrown6 rows6 labels6 guesses6 comes6 sizes6 words6 up6 down6 weightAbove6 weightBelow6 told6 length6 behind6 shares6 over6 start6 move6 show6 signs6 many6 bestPath6 nextStart6 nextMove6 nextShow6) (w6 cI cJ h6 labels6a guesses6a comes6a sizes6a words6a told6a behind6a shares6a start6a move6a show6a signs6a many6a bestPath6a nextStart6a nextMove6a nextShow6a thrown6 rows6 labels6 guesses6 comes6 sizes6 words6 up6 down6 weightAbove6 weightBelow6 told6 length6 behind6 shares6 over6 start6 move6 show6 signs6 many6 bestPath6 nextStart6 nextMove6 nextShow6) ret9 := by
  refine entI (cc := cX6_timesOf) (maxL := 6) (by decide) rfl (Nat.le_of_ble_eq_true rfl) ?_
  intro p e s m args below meth c ls A Q X hret
  obtain ⟨hx, hb, hml, hts, hown, hK, hA, hP, hD, hS, hl, hnm⟩ := X
  have hown : s.vm.findClass RX6 = some m.cls := hown
  have hl : lv_has ls 6 [(0, .ref h6), (1, .int i1), (2, .int i2)] := hl
  have hw1 : (Cond.fieldLink RX6 76 "CountLearnersModel" "rows" "I").before args s = true := hts _ (by decide +kernel)
  have hinX6 : ∀ w ∈ wsX60, w ∈ wsX6_timesOf := by decide +kernel
  have hw3 : (Cond.fieldLink RX6 19 "CountLearnersModel" "sizes" "[I").before args s = true := hts _ (by decide +kernel)
  have hw4 : (Cond.fieldLink RX6 22 "CountLearnersModel" "words" "[I").before args s = true := hts _ (by decide +kernel)
  unfold f_X6_timesOf at h
  refine lv_iconst (v := 0) hx hb dX6_timesOf_0 (by decide) ?_
  refine lv_topi (fun x3_1 ex3_1 => ?_)
  have h := nm_s h x3_1 ex3_1
  refine lv_istore_n (lv' := [(3, .int x3_1), (0, .ref h6), (1, .int i1), (2, .int i2)]) hx hb dX6_timesOf_1 rfl hl (by decide) rfl (fun ls hl => ?_)
  refine lv_iconst (v := 0) hx hb dX6_timesOf_2 (by decide) ?_
  refine lv_topi (fun x4_2 ex4_2 => ?_)
  have h := nm_s h x4_2 ex4_2
  refine lv_istore (lv' := [(4, .int x4_2), (3, .int x3_1), (0, .ref h6), (1, .int i1), (2, .int i2)]) hx hb dX6_timesOf_3 hl (by decide) rfl (fun ls hl => ?_)
  have L5 : ∀ (n : Nat) (y4_3 : Int32) (y3_4 : Int32) (z4_5 : Int32) (z3_6 : Int32), f_X6_timesOf_L5 i1 i2 rows6 labels6 guesses6 sizes6 words6 n y4_3 y3_4 = some (z4_5, z3_6) → ∀ (H : Heap) (locs : List Loc) (ls : Array Slot), va_P D vwK (w6 cI cJ h6 labels6a guesses6a comes6a sizes6a words6a told6a behind6a shares6a start6a move6a show6a signs6a many6a bestPath6a nextStart6a nextMove6a nextShow6a thrown6 rows6 labels6 guesses6 comes6 sizes6 words6 up6 down6 weightAbove6 weightBelow6 told6 length6 behind6 shares6 over6 start6 move6 show6 signs6 many6 bestPath6 nextStart6 nextMove6 nextShow6) H → va_D A (w6 cI cJ h6 labels6a guesses6a comes6a sizes6a words6a told6a behind6a shares6a start6a move6a show6a signs6a many6a bestPath6a nextStart6a nextMove6a nextShow6a thrown6 rows6 labels6 guesses6 comes6 sizes6 words6 up6 down6 weightAbove6 weightBelow6 told6 length6 behind6 shares6 over6 start6 move6 show6 signs6 many6 bestPath6 nextStart6 nextMove6 nextShow6) → va_S A s.heap H locs → lv_has ls 6 [(4, .int y4_3), (3, .int y3_4), (0, .ref h6), (1, .int i1), (2, .int i2)] → (∀ (H : Heap) (locs : List Loc) (ls : Array Slot), va_P D vwK (w6 cI cJ h6 labels6a guesses6a comes6a sizes6a words6a told6a behind6a shares6a start6a move6a show6a signs6a many6a bestPath6a nextStart6a nextMove6a nextShow6a thrown6 rows6 labels6 guesses6 comes6 sizes6 words6 up6 down6 weightAbove6 weightBelow6 told6 length6 behind6 shares6 over6 start6 move6 show6 signs6 many6 bestPath6 nextStart6 nextMove6 nextShow6) H → va_D A (w6 cI cJ h6 labels6a guesses6a comes6a sizes6a words6a told6a behind6a shares6a start6a move6a show6a signs6a many6a bestPath6a nextStart6a nextMove6a nextShow6a thrown6 rows6 labels6 guesses6 comes6 sizes6 words6 up6 down6 weightAbove6 weightBelow6 told6 length6 behind6 shares6 over6 start6 move6 show6 signs6 many6 bestPath6 nextStart6 nextMove6 nextShow6) → va_S A s.heap H locs → lv_has ls 6 [(3, .int z3_6)] → W p l e (rmOf 1 21) s m args below meth c H locs 0 0 Q (F0 m 81 ls [])) → W p l e (rmOf 1 21) s m args below meth c H locs 0 0 Q (F0 m 5 ls []) := by
    intro n
    induction n with
    | zero => intro y4_3 y3_4 z4_5 z3_6 h; rw [f_X6_timesOf_L5.eq_1] at h; cases h
    | succ n ih =>
      intro y4_3 y3_4 z4_5 z3_6 h H locs ls hP hD hS hl K
      rw [f_X6_timesOf_L5.eq_2] at h
      refine lv_iload hx hb dX6_timesOf_5 (lv_at hl 0 rfl) ?_
      refine lv_aload_n hx hb dX6_timesOf_7 rfl (lv_at hl 2 rfl) ?_
      refine va_get (D := D) (ci := 5) (v := .int rows6) (C := RX6) (T := TX6) (N := 25) hx hb hts hinX6 hown hK.1 hP 0 rfl rfl 1 (by decide) hw1 (fun _ h9 => h9) rfl dX6_timesOf_8 ?_
      refine lv_icmp_ge (tgt := 81) hx hb dX6_timesOf_11 (by decide) (fun c_7 => ?_) (fun c_7 => ?_)
      · have h := it_p c_7 h
        cases h
        exact K _ _ _ hP hD hS (lv_sub hl [1] rfl)
      · have h := it_n c_7 h
        refine lv_iconst (v := 0) hx hb dX6_timesOf_14 (by decide) ?_
        refine lv_topi (fun x5_8 ex5_8 => ?_)
        have h := nm_s h x5_8 ex5_8
        refine lv_istore (lv' := [(5, .int x5_8), (4, .int y4_3), (3, .int y3_4), (0, .ref h6), (1, .int i1), (2, .int i2)]) hx hb dX6_timesOf_15 hl (by decide) rfl (fun ls hl => ?_)
        have L17 : ∀ (n : Nat) (y5_9 : Int32) (y3_10 : Int32) (z5_11 : Int32) (z3_12 : Int32), f_X6_timesOf_L17 y4_3 i1 i2 labels6 guesses6 sizes6 words6 n y5_9 y3_10 = some (z5_11, z3_12) → ∀ (H : Heap) (locs : List Loc) (ls : Array Slot), va_P D vwK (w6 cI cJ h6 labels6a guesses6a comes6a sizes6a words6a told6a behind6a shares6a start6a move6a show6a signs6a many6a bestPath6a nextStart6a nextMove6a nextShow6a thrown6 rows6 labels6 guesses6 comes6 sizes6 words6 up6 down6 weightAbove6 weightBelow6 told6 length6 behind6 shares6 over6 start6 move6 show6 signs6 many6 bestPath6 nextStart6 nextMove6 nextShow6) H → va_D A (w6 cI cJ h6 labels6a guesses6a comes6a sizes6a words6a told6a behind6a shares6a start6a move6a show6a signs6a many6a bestPath6a nextStart6a nextMove6a nextShow6a thrown6 rows6 labels6 guesses6 comes6 sizes6 words6 up6 down6 weightAbove6 weightBelow6 told6 length6 behind6 shares6 over6 start6 move6 show6 signs6 many6 bestPath6 nextStart6 nextMove6 nextShow6) → va_S A s.heap H locs → lv_has ls 6 [(5, .int y5_9), (4, .int y4_3), (3, .int y3_10), (0, .ref h6), (1, .int i1), (2, .int i2)] → (∀ (H : Heap) (locs : List Loc) (ls : Array Slot), va_P D vwK (w6 cI cJ h6 labels6a guesses6a comes6a sizes6a words6a told6a behind6a shares6a start6a move6a show6a signs6a many6a bestPath6a nextStart6a nextMove6a nextShow6a thrown6 rows6 labels6 guesses6 comes6 sizes6 words6 up6 down6 weightAbove6 weightBelow6 told6 length6 behind6 shares6 over6 start6 move6 show6 signs6 many6 bestPath6 nextStart6 nextMove6 nextShow6) H → va_D A (w6 cI cJ h6 labels6a guesses6a comes6a sizes6a words6a told6a behind6a shares6a start6a move6a show6a signs6a many6a bestPath6a nextStart6a nextMove6a nextShow6a thrown6 rows6 labels6 guesses6 comes6 sizes6 words6 up6 down6 weightAbove6 weightBelow6 told6 length6 behind6 shares6 over6 start6 move6 show6 signs6 many6 bestPath6 nextStart6 nextMove6 nextShow6) → va_S A s.heap H locs → lv_has ls 6 [(4, .int y4_3), (3, .int z3_12), (0, .ref h6), (1, .int i1), (2, .int i2)] → W p l e (rmOf 1 21) s m args below meth c H locs 0 0 Q (F0 m 75 ls [])) → W p l e (rmOf 1 21) s m args below meth c H locs 0 0 Q (F0 m 17 ls []) := by
          intro n
          induction n with
          | zero => intro y5_9 y3_10 z5_11 z3_12 h; rw [f_X6_timesOf_L17.eq_1] at h; cases h
          | succ n ih =>
            intro y5_9 y3_10 z5_11 z3_12 h H locs ls hP hD hS hl K
            rw [f_X6_timesOf_L17.eq_2] at h
            refine lv_iload hx hb dX6_timesOf_17 (lv_at hl 0 rfl) ?_
            refine lv_aload_n hx hb dX6_timesOf_19 rfl (lv_at hl 3 rfl) ?_
            refine va_get (D := D) (ci := 5) (v := .ref sizes6a) (C := RX6) (T := TX6) (N := 25) hx hb hts hinX6 hown hK.1 hP 0 rfl rfl 5 (by decide) hw3 (fun _ h9 => h9) rfl dX6_timesOf_20 ?_
            refine lv_iload hx hb dX6_timesOf_23 (lv_at hl 1 rfl) ?_
            obtain ⟨hi_13, h⟩ := gA_s h
            refine va_iald hx hb hK.1 hP 4 0 rfl rfl hi_13 dX6_timesOf_25 ?_
            refine lv_topi (fun v_14 ev_14 => ?_)
            have h := h v_14 ev_14
            refine lv_icmp_ge (tgt := 75) hx hb dX6_timesOf_26 (by decide) (fun c_15 => ?_) (fun c_15 => ?_)
            · have h := it_p c_15 h
              cases h
              exact K _ _ _ hP hD hS (lv_sub hl [1, 2, 3, 4, 5] rfl)
            · have h := it_n c_15 h
              refine lv_aload_n hx hb dX6_timesOf_29 rfl (lv_at hl 3 rfl) ?_
              refine lv_iload hx hb dX6_timesOf_30 (lv_at hl 1 rfl) ?_
              obtain ⟨r_16, hc_17, h⟩ := bd_s h
              refine callTi (As := [.int y4_3]) (rest := []) ⟨hx, hb, hml, hown, hts⟩ (c_X6_asLabel l D cI cJ h6 labels6a guesses6a comes6a sizes6a words6a told6a behind6a shares6a start6a move6a show6a signs6a many6a bestPath6a nextStart6a nextMove6a nextShow6a thrown6 rows6 labels6 guesses6 comes6 sizes6 words6 up6 down6 weightAbove6 weightBelow6 told6 length6 behind6 shares6 over6 start6 move6 show6 signs6 many6 bestPath6 nextStart6 nextMove6 nextShow6 y4_3 r_16 hc_17) (cwV 1 hts gX6_timesOf_X6_asLabel rfl rfl rfl (by decide +kernel) ⟨Nat.le_of_ble_eq_true rfl, Nat.le_of_ble_eq_true rfl⟩) hK hP hD hS hA 0 5 rfl rfl rfl rfl hl.1 rfl (Nat.le_of_ble_eq_true rfl) dX6_timesOf_32 ⟨Nat.zero_le _, Nat.zero_le _⟩ (fun H locs hP hD hS => ?_)
              refine lv_iload_n hx hb dX6_timesOf_35 rfl (lv_at hl 4 rfl) ?_
              refine lv_icmp_ne (tgt := 75) hx hb dX6_timesOf_36 (by decide) (fun c_18 => ?_) (fun c_18 => ?_)
              · have h := it_n c_18 h
                cases h
                exact K _ _ _ hP hD hS (lv_sub hl [1, 2, 3, 4, 5] rfl)
              · have h := it_p c_18 h
                refine lv_iload_n hx hb dX6_timesOf_39 rfl (lv_at hl 2 rfl) ?_
                refine lv_iload_n hx hb dX6_timesOf_40 rfl (lv_at hl 5 rfl) ?_
                refine lv_iconst (v := (-1)) hx hb dX6_timesOf_41 (by decide) ?_
                refine lv_icmp_eq (tgt := 62) hx hb dX6_timesOf_42 (by decide) (fun c_19 => ?_) (fun c_19 => ?_)
                · have h := it_p c_19 h
                  refine lv_iconst (v := 1) hx hb dX6_timesOf_62 (by decide) ?_
                  refine lv_goto (tgt := 67) hx hb dX6_timesOf_63 (by decide) ?_
                  refine lv_iadd hx hb dX6_timesOf_67 ?_
                  refine lv_topi (fun x3_20 ex3_20 => ?_)
                  have h := nm_s h x3_20 ex3_20
                  refine lv_istore_n (lv' := [(3, .int x3_20), (5, .int y5_9), (4, .int y4_3), (0, .ref h6), (1, .int i1), (2, .int i2)]) hx hb dX6_timesOf_68 rfl hl (by decide) rfl (fun ls hl => ?_)
                  obtain ⟨x5_21, ex5_21⟩ : ∃ z : Int32, z = y5_9 + 1 := ⟨_, rfl⟩
                  have h := nm_s h x5_21 ex5_21
                  refine lv_iinc (v := x5_21) (lv' := [(5, .int x5_21), (3, .int x3_20), (4, .int y4_3), (0, .ref h6), (1, .int i1), (2, .int i2)]) hx hb dX6_timesOf_69 hl (k := 1) rfl (by rw [ex5_21]; rfl) (by decide) rfl (fun ls hl => ?_)
                  refine lv_goto (tgt := 17) hx hb dX6_timesOf_72 (by decide) ?_
                  exact ih _ _ _ _ h _ _ _ hP hD hS (lv_sub hl [0, 2, 1, 3, 4, 5] rfl) K
                · have h := it_n c_19 h
                  refine lv_aload_n hx hb dX6_timesOf_45 rfl (lv_at hl 3 rfl) ?_
                  refine va_get (D := D) (ci := 5) (v := .ref words6a) (C := RX6) (T := TX6) (N := 25) hx hb hts hinX6 hown hK.1 hP 0 rfl rfl 6 (by decide) hw4 (fun _ h9 => h9) rfl dX6_timesOf_46 ?_
                  refine lv_bipush (v := 6) hx hb dX6_timesOf_49 (by decide) ?_
                  refine lv_iload hx hb dX6_timesOf_51 (lv_at hl 1 rfl) ?_
                  refine lv_imul hx hb dX6_timesOf_53 ?_
                  refine lv_iload hx hb dX6_timesOf_54 (lv_at hl 0 rfl) ?_
                  refine lv_iadd hx hb dX6_timesOf_56 ?_
                  obtain ⟨hi_22, h⟩ := gA_s h
                  refine va_iald hx hb hK.1 hP 5 0 rfl rfl hi_22 dX6_timesOf_57 ?_
                  refine lv_topi (fun v_23 ev_23 => ?_)
                  have h := h v_23 ev_23
                  refine lv_iload_n hx hb dX6_timesOf_58 rfl (lv_at hl 5 rfl) ?_
                  refine lv_icmp_ne (tgt := 66) hx hb dX6_timesOf_59 (by decide) (fun c_24 => ?_) (fun c_24 => ?_)
                  · have h := it_n c_24 h
                    refine lv_iconst (v := 0) hx hb dX6_timesOf_66 (by decide) ?_
                    refine lv_iadd hx hb dX6_timesOf_67 ?_
                    refine lv_topi (fun x3_25 ex3_25 => ?_)
                    have h := nm_s h x3_25 ex3_25
                    refine lv_istore_n (lv' := [(3, .int x3_25), (5, .int y5_9), (4, .int y4_3), (0, .ref h6), (1, .int i1), (2, .int i2)]) hx hb dX6_timesOf_68 rfl hl (by decide) rfl (fun ls hl => ?_)
                    obtain ⟨x5_26, ex5_26⟩ : ∃ z : Int32, z = y5_9 + 1 := ⟨_, rfl⟩
                    have h := nm_s h x5_26 ex5_26
                    refine lv_iinc (v := x5_26) (lv' := [(5, .int x5_26), (3, .int x3_25), (4, .int y4_3), (0, .ref h6), (1, .int i1), (2, .int i2)]) hx hb dX6_timesOf_69 hl (k := 1) rfl (by rw [ex5_26]; rfl) (by decide) rfl (fun ls hl => ?_)
                    refine lv_goto (tgt := 17) hx hb dX6_timesOf_72 (by decide) ?_
                    exact ih _ _ _ _ h _ _ _ hP hD hS (lv_sub hl [0, 2, 1, 3, 4, 5] rfl) K
                  · have h := it_p c_24 h
                    refine lv_iconst (v := 1) hx hb dX6_timesOf_62 (by decide) ?_
                    refine lv_goto (tgt := 67) hx hb dX6_timesOf_63 (by decide) ?_
                    refine lv_iadd hx hb dX6_timesOf_67 ?_
                    refine lv_topi (fun x3_27 ex3_27 => ?_)
                    have h := nm_s h x3_27 ex3_27
                    refine lv_istore_n (lv' := [(3, .int x3_27), (5, .int y5_9), (4, .int y4_3), (0, .ref h6), (1, .int i1), (2, .int i2)]) hx hb dX6_timesOf_68 rfl hl (by decide) rfl (fun ls hl => ?_)
                    obtain ⟨x5_28, ex5_28⟩ : ∃ z : Int32, z = y5_9 + 1 := ⟨_, rfl⟩
                    have h := nm_s h x5_28 ex5_28
                    refine lv_iinc (v := x5_28) (lv' := [(5, .int x5_28), (3, .int x3_27), (4, .int y4_3), (0, .ref h6), (1, .int i1), (2, .int i2)]) hx hb dX6_timesOf_69 hl (k := 1) rfl (by rw [ex5_28]; rfl) (by decide) rfl (fun ls hl => ?_)
                    refine lv_goto (tgt := 17) hx hb dX6_timesOf_72 (by decide) ?_
                    exact ih _ _ _ _ h _ _ _ hP hD hS (lv_sub hl [0, 2, 1, 3, 4, 5] rfl) K
        obtain ⟨⟨z5_29, z3_30⟩, hl_31, h⟩ := bd_s h
        refine L17 FU x5_8 y3_4 _ _ hl_31 _ _ _ hP hD hS (lv_sub hl [0, 1, 2, 3, 4, 5] rfl) (fun H locs ls hP hD hS hl => ?_)
        obtain ⟨x4_32, ex4_32⟩ : ∃ z : Int32, z = y4_3 + 1 := ⟨_, rfl⟩
        have h := nm_s h x4_32 ex4_32
        refine lv_iinc (v := x4_32) (lv' := [(4, .int x4_32), (3, .int z3_30), (0, .ref h6), (1, .int i1), (2, .int i2)]) hx hb dX6_timesOf_75 hl (k := 0) rfl (by rw [ex4_32]; rfl) (by decide) rfl (fun ls hl => ?_)
        refine lv_goto (tgt := 5) hx hb dX6_timesOf_78 (by decide) ?_
        exact ih _ _ _ _ h _ _ _ hP hD hS (lv_sub hl [0, 1, 2, 3, 4] rfl) K
  obtain ⟨⟨z4_33, z3_34⟩, hl_35, h⟩ := bd_s h
  refine L5 FU x4_2 x3_1 _ _ hl_35 _ _ _ hP hD hS (lv_sub hl [0, 1, 2, 3, 4] rfl) (fun H locs ls hP hD hS hl => ?_)
  refine lv_iload_n hx hb dX6_timesOf_81 rfl (lv_at hl 0 rfl) ?_
  cases h
  exact hret _ _ _ _ hP hD hS dX6_timesOf_82
def f_X6_counted (i1 : Int32) (i2 : Int32) (thrown6 : Int32) (rows6 : Int32) (labels6 : Nat → Int32) (guesses6 : Nat → Int32) (sizes6 : Nat → Int32) (words6 : Nat → Int32) : Option (Int32 × Int32) :=
  nm (α := Int32) (0) fun thrown6_1 =>
  Option.bind (f_X6_within i1 0 3) fun r_2 =>
  if r_2 = 0 then
    some ((-2), thrown6_1)
  else
    Option.bind (f_X6_within i2 0 9) fun r_5 =>
    if r_5 = 0 then
      some ((-2), thrown6_1)
    else
      if i2 = 9 then
        Option.bind (f_X6_rowsOf i1 rows6 labels6 guesses6) fun r_14 =>
        some (r_14, thrown6_1)
      else
        if i2 = 8 then
          Option.bind (f_X6_timesOf i1 (-1) rows6 labels6 guesses6 sizes6 words6) fun r_12 =>
          some (r_12, thrown6_1)
        else
          Option.bind (f_X6_timesOf i1 i2 rows6 labels6 guesses6 sizes6 words6) fun r_10 =>
          some (r_10, thrown6_1)
set_option maxHeartbeats 4000000 in
set_option maxRecDepth 100000 in
theorem c_X6_counted (l : Launch) (D : va_G) (cI cJ : ClassId) (h6 labels6a guesses6a comes6a sizes6a words6a told6a behind6a shares6a start6a move6a show6a signs6a many6a bestPath6a nextStart6a nextMove6a nextShow6a : Nat) (thrown6 : Int32) (rows6 : Int32) (labels6 : Nat → Int32) (guesses6 : Nat → Int32) (comes6 : Nat → Int32) (sizes6 : Nat → Int32) (words6 : Nat → Int32) (up6 : Int32) (down6 : Int32) (weightAbove6 : Int64) (weightBelow6 : Int64) (told6 : Nat → Int32) (length6 : Int32) (behind6 : Nat → Int32) (shares6 : Nat → Int64) (over6 : Int64) (start6 : Nat → Int32) (move6 : Nat → Int32) (show6 : Nat → Int32) (signs6 : Nat → Int32) (many6 : Nat → Int32) (bestPath6 : Nat → Int32) (nextStart6 : Nat → Int32) (nextMove6 : Nat → Int32) (nextShow6 : Nat → Int32) (i1 : Int32) (i2 : Int32) (ret9 : Int32) (thrown6z : Int32) (h : f_X6_counted i1 i2 thrown6 rows6 labels6 guesses6 sizes6 words6 = some (ret9, thrown6z)) : CI l D cI cJ yX6_counted wsX6_counted 2 46 [.ref h6, .int i1, .int i2] (w6 cI cJ h6 labels6a guesses6a comes6a sizes6a words6a told6a behind6a shares6a start6a move6a show6a signs6a many6a bestPath6a nextStart6a nextMove6a nextShow6a thrown6 rows6 labels6 guesses6 comes6 sizes6 words6 up6 down6 weightAbove6 weightBelow6 told6 length6 behind6 shares6 over6 start6 move6 show6 signs6 many6 bestPath6 nextStart6 nextMove6 nextShow6) (w6 cI cJ h6 labels6a guesses6a comes6a sizes6a words6a told6a behind6a shares6a start6a move6a show6a signs6a many6a bestPath6a nextStart6a nextMove6a nextShow6a thrown6z rows6 labels6 guesses6 comes6 sizes6 words6 up6 down6 weightAbove6 weightBelow6 told6 length6 behind6 shares6 over6 start6 move6 show6 signs6 many6 bestPath6 nextStart6 nextMove6 nextShow6) ret9 := by
  refine entI (cc := cX6_counted) (maxL := 3) (by decide) rfl (Nat.le_of_ble_eq_true rfl) ?_
  intro p e s m args below meth c ls A Q X hret
  obtain ⟨hx, hb, hml, hts, hown, hK, hA, hP, hD, hS, hl, hnm⟩ := X
  have hown : s.vm.findClass RX6 = some m.cls := hown
  have hl : lv_has ls 3 [(0, .ref h6), (1, .int i1), (2, .int i2)] := hl
  have hw1 : (Cond.fieldLink RX6 69 "CountLearnersModel" "thrown" "I").before args s = true := hts _ (by decide +kernel)
  have hinX6 : ∀ w ∈ wsX60, w ∈ wsX6_counted := by decide +kernel
  unfold f_X6_counted at h
  refine lv_aload_n hx hb dX6_counted_0 rfl (lv_at hl 0 rfl) ?_
  refine lv_iconst (v := 0) hx hb dX6_counted_1 (by decide) ?_
  refine lv_topi (fun thrown6_1 ethrown6_1 => ?_)
  have h := nm_s h thrown6_1 ethrown6_1
  refine va_put (D := D) (ci := 5) (v := .int thrown6_1) (ty := .int) (C := RX6) (T := TX6) (N := 25) hx hb hts hinX6 tyX6 tyX6_ok nmX6 hown hK.1 hP hD hS 0 rfl rfl 0 (by decide) hw1 (fun _ h9 => h9) rfl (by decide +kernel) rfl rfl (Nat.le_of_ble_eq_true rfl) dX6_counted_2 (fun H locs hP hD hS => ?_)
  have hP : va_P D vwK (w6 cI cJ h6 labels6a guesses6a comes6a sizes6a words6a told6a behind6a shares6a start6a move6a show6a signs6a many6a bestPath6a nextStart6a nextMove6a nextShow6a thrown6_1 rows6 labels6 guesses6 comes6 sizes6 words6 up6 down6 weightAbove6 weightBelow6 told6 length6 behind6 shares6 over6 start6 move6 show6 signs6 many6 bestPath6 nextStart6 nextMove6 nextShow6) H := hP
  have hD : va_D A (w6 cI cJ h6 labels6a guesses6a comes6a sizes6a words6a told6a behind6a shares6a start6a move6a show6a signs6a many6a bestPath6a nextStart6a nextMove6a nextShow6a thrown6_1 rows6 labels6 guesses6 comes6 sizes6 words6 up6 down6 weightAbove6 weightBelow6 told6 length6 behind6 shares6 over6 start6 move6 show6 signs6 many6 bestPath6 nextStart6 nextMove6 nextShow6) := hD
  refine lv_iload_n hx hb dX6_counted_5 rfl (lv_at hl 1 rfl) ?_
  refine lv_iconst (v := 0) hx hb dX6_counted_6 (by decide) ?_
  refine lv_iconst (v := 3) hx hb dX6_counted_7 (by decide) ?_
  obtain ⟨r_2, hc_3, h⟩ := bd_s h
  refine callPi (As := [.int i1, .int 0, .int 3]) (rest := []) ⟨hx, hb, hml, hown, hts⟩ (c_X6_within l D cI cJ i1 0 3 r_2 hc_3) (va_cwS 3 hts gX6_counted_X6_within rfl rfl rfl (by decide +kernel) ⟨Nat.le_of_ble_eq_true rfl, Nat.le_of_ble_eq_true rfl⟩) hK hP hD hS hA rfl hl.1 rfl (Nat.le_of_ble_eq_true rfl) dX6_counted_8 ⟨Nat.zero_le _, Nat.zero_le _⟩ (fun H locs hP hD hS => ?_)
  refine lv_if_eq (tgt := 24) hx hb dX6_counted_11 (by decide) (fun c_4 => ?_) (fun c_4 => ?_)
  · have h := it_p c_4 h
    refine lv_bipush (v := (-2)) hx hb dX6_counted_24 (by decide) ?_
    cases h
    exact hret _ _ _ _ hP hD hS dX6_counted_26
  · have h := it_n c_4 h
    refine lv_iload_n hx hb dX6_counted_14 rfl (lv_at hl 2 rfl) ?_
    refine lv_iconst (v := 0) hx hb dX6_counted_15 (by decide) ?_
    refine lv_bipush (v := 9) hx hb dX6_counted_16 (by decide) ?_
    obtain ⟨r_5, hc_6, h⟩ := bd_s h
    refine callPi (As := [.int i2, .int 0, .int 9]) (rest := []) ⟨hx, hb, hml, hown, hts⟩ (c_X6_within l D cI cJ i2 0 9 r_5 hc_6) (va_cwS 3 hts gX6_counted_X6_within rfl rfl rfl (by decide +kernel) ⟨Nat.le_of_ble_eq_true rfl, Nat.le_of_ble_eq_true rfl⟩) hK hP hD hS hA rfl hl.1 rfl (Nat.le_of_ble_eq_true rfl) dX6_counted_18 ⟨Nat.zero_le _, Nat.zero_le _⟩ (fun H locs hP hD hS => ?_)
    refine lv_if_ne (tgt := 27) hx hb dX6_counted_21 (by decide) (fun c_7 => ?_) (fun c_7 => ?_)
    · have h := it_n c_7 h
      refine lv_iload_n hx hb dX6_counted_27 rfl (lv_at hl 2 rfl) ?_
      refine lv_bipush (v := 9) hx hb dX6_counted_28 (by decide) ?_
      refine lv_icmp_ne (tgt := 41) hx hb dX6_counted_30 (by decide) (fun c_8 => ?_) (fun c_8 => ?_)
      · have h := it_n c_8 h
        refine lv_aload_n hx hb dX6_counted_41 rfl (lv_at hl 0 rfl) ?_
        refine lv_iload_n hx hb dX6_counted_42 rfl (lv_at hl 1 rfl) ?_
        refine lv_iload_n hx hb dX6_counted_43 rfl (lv_at hl 2 rfl) ?_
        refine lv_bipush (v := 8) hx hb dX6_counted_44 (by decide) ?_
        refine lv_icmp_ne (tgt := 53) hx hb dX6_counted_46 (by decide) (fun c_9 => ?_) (fun c_9 => ?_)
        · have h := it_n c_9 h
          refine lv_iload_n hx hb dX6_counted_53 rfl (lv_at hl 2 rfl) ?_
          obtain ⟨r_10, hc_11, h⟩ := bd_s h
          refine callTi (As := [.int i1, .int i2]) (rest := []) ⟨hx, hb, hml, hown, hts⟩ (c_X6_timesOf l D cI cJ h6 labels6a guesses6a comes6a sizes6a words6a told6a behind6a shares6a start6a move6a show6a signs6a many6a bestPath6a nextStart6a nextMove6a nextShow6a thrown6_1 rows6 labels6 guesses6 comes6 sizes6 words6 up6 down6 weightAbove6 weightBelow6 told6 length6 behind6 shares6 over6 start6 move6 show6 signs6 many6 bestPath6 nextStart6 nextMove6 nextShow6 i1 i2 r_10 hc_11) (cwV 2 hts gX6_counted_X6_timesOf rfl rfl rfl (by decide +kernel) ⟨Nat.le_of_ble_eq_true rfl, Nat.le_of_ble_eq_true rfl⟩) hK hP hD hS hA 0 5 rfl rfl rfl rfl hl.1 rfl (Nat.le_of_ble_eq_true rfl) dX6_counted_54 ⟨Nat.zero_le _, Nat.zero_le _⟩ (fun H locs hP hD hS => ?_)
          cases h
          exact hret _ _ _ _ hP hD hS dX6_counted_57
        · have h := it_p c_9 h
          refine lv_iconst (v := (-1)) hx hb dX6_counted_49 (by decide) ?_
          refine lv_goto (tgt := 54) hx hb dX6_counted_50 (by decide) ?_
          obtain ⟨r_12, hc_13, h⟩ := bd_s h
          refine callTi (As := [.int i1, .int (-1)]) (rest := []) ⟨hx, hb, hml, hown, hts⟩ (c_X6_timesOf l D cI cJ h6 labels6a guesses6a comes6a sizes6a words6a told6a behind6a shares6a start6a move6a show6a signs6a many6a bestPath6a nextStart6a nextMove6a nextShow6a thrown6_1 rows6 labels6 guesses6 comes6 sizes6 words6 up6 down6 weightAbove6 weightBelow6 told6 length6 behind6 shares6 over6 start6 move6 show6 signs6 many6 bestPath6 nextStart6 nextMove6 nextShow6 i1 (-1) r_12 hc_13) (cwV 2 hts gX6_counted_X6_timesOf rfl rfl rfl (by decide +kernel) ⟨Nat.le_of_ble_eq_true rfl, Nat.le_of_ble_eq_true rfl⟩) hK hP hD hS hA 0 5 rfl rfl rfl rfl hl.1 rfl (Nat.le_of_ble_eq_true rfl) dX6_counted_54 ⟨Nat.zero_le _, Nat.zero_le _⟩ (fun H locs hP hD hS => ?_)
          cases h
          exact hret _ _ _ _ hP hD hS dX6_counted_57
      · have h := it_p c_8 h
        refine lv_aload_n hx hb dX6_counted_33 rfl (lv_at hl 0 rfl) ?_
        refine lv_iload_n hx hb dX6_counted_34 rfl (lv_at hl 1 rfl) ?_
        obtain ⟨r_14, hc_15, h⟩ := bd_s h
        refine callTi (As := [.int i1]) (rest := []) ⟨hx, hb, hml, hown, hts⟩ (c_X6_rowsOf l D cI cJ h6 labels6a guesses6a comes6a sizes6a words6a told6a behind6a shares6a start6a move6a show6a signs6a many6a bestPath6a nextStart6a nextMove6a nextShow6a thrown6_1 rows6 labels6 guesses6 comes6 sizes6 words6 up6 down6 weightAbove6 weightBelow6 told6 length6 behind6 shares6 over6 start6 move6 show6 signs6 many6 bestPath6 nextStart6 nextMove6 nextShow6 i1 r_14 hc_15) (cwV 1 hts gX6_counted_X6_rowsOf rfl rfl rfl (by decide +kernel) ⟨Nat.le_of_ble_eq_true rfl, Nat.le_of_ble_eq_true rfl⟩) hK hP hD hS hA 0 5 rfl rfl rfl rfl hl.1 rfl (Nat.le_of_ble_eq_true rfl) dX6_counted_35 ⟨Nat.zero_le _, Nat.zero_le _⟩ (fun H locs hP hD hS => ?_)
        refine lv_goto (tgt := 57) hx hb dX6_counted_38 (by decide) ?_
        cases h
        exact hret _ _ _ _ hP hD hS dX6_counted_57
    · have h := it_p c_7 h
      refine lv_bipush (v := (-2)) hx hb dX6_counted_24 (by decide) ?_
      cases h
      exact hret _ _ _ _ hP hD hS dX6_counted_26
def f_X6_shareAbove (i1 : Int32) (i2 : Int32) (rows6 : Int32) (labels6 : Nat → Int32) (guesses6 : Nat → Int32) (sizes6 : Nat → Int32) (words6 : Nat → Int32) (up6 : Int32) (down6 : Int32) : Option (Int64) :=
  Option.bind (f_X6_timesOf i1 i2 rows6 labels6 guesses6 sizes6 words6) fun r_1 =>
  some (((Int32.toInt64 r_1) * (Int32.toInt64 down6)) + (Int32.toInt64 up6))
set_option maxHeartbeats 4000000 in
set_option maxRecDepth 100000 in
theorem c_X6_shareAbove (l : Launch) (D : va_G) (cI cJ : ClassId) (h6 labels6a guesses6a comes6a sizes6a words6a told6a behind6a shares6a start6a move6a show6a signs6a many6a bestPath6a nextStart6a nextMove6a nextShow6a : Nat) (thrown6 : Int32) (rows6 : Int32) (labels6 : Nat → Int32) (guesses6 : Nat → Int32) (comes6 : Nat → Int32) (sizes6 : Nat → Int32) (words6 : Nat → Int32) (up6 : Int32) (down6 : Int32) (weightAbove6 : Int64) (weightBelow6 : Int64) (told6 : Nat → Int32) (length6 : Int32) (behind6 : Nat → Int32) (shares6 : Nat → Int64) (over6 : Int64) (start6 : Nat → Int32) (move6 : Nat → Int32) (show6 : Nat → Int32) (signs6 : Nat → Int32) (many6 : Nat → Int32) (bestPath6 : Nat → Int32) (nextStart6 : Nat → Int32) (nextMove6 : Nat → Int32) (nextShow6 : Nat → Int32) (i1 : Int32) (i2 : Int32) (ret9 : Int64) (h : f_X6_shareAbove i1 i2 rows6 labels6 guesses6 sizes6 words6 up6 down6 = some ret9) : CL l D cI cJ yX6_shareAbove wsX6_shareAbove 2 46 [.ref h6, .int i1, .int i2] (w6 cI cJ h6 labels6a guesses6a comes6a sizes6a words6a told6a behind6a shares6a start6a move6a show6a signs6a many6a bestPath6a nextStart6a nextMove6a nextShow6a thrown6 rows6 labels6 guesses6 comes6 sizes6 words6 up6 down6 weightAbove6 weightBelow6 told6 length6 behind6 shares6 over6 start6 move6 show6 signs6 many6 bestPath6 nextStart6 nextMove6 nextShow6) (w6 cI cJ h6 labels6a guesses6a comes6a sizes6a words6a told6a behind6a shares6a start6a move6a show6a signs6a many6a bestPath6a nextStart6a nextMove6a nextShow6a thrown6 rows6 labels6 guesses6 comes6 sizes6 words6 up6 down6 weightAbove6 weightBelow6 told6 length6 behind6 shares6 over6 start6 move6 show6 signs6 many6 bestPath6 nextStart6 nextMove6 nextShow6) ret9 := by
  refine entL (cc := cX6_shareAbove) (maxL := 3) (by decide) rfl (Nat.le_of_ble_eq_true rfl) ?_
  intro p e s m args below meth c ls A Q X hret
  obtain ⟨hx, hb, hml, hts, hown, hK, hA, hP, hD, hS, hl, hnm⟩ := X
  have hown : s.vm.findClass RX6 = some m.cls := hown
  have hl : lv_has ls 3 [(0, .ref h6), (1, .int i1), (2, .int i2)] := hl
  have hw1 : (Cond.fieldLink RX6 29 "CountLearnersModel" "down" "I").before args s = true := hts _ (by decide +kernel)
  have hinX6 : ∀ w ∈ wsX60, w ∈ wsX6_shareAbove := by decide +kernel
  have hw3 : (Cond.fieldLink RX6 25 "CountLearnersModel" "up" "I").before args s = true := hts _ (by decide +kernel)
  unfold f_X6_shareAbove at h
  refine lv_aload_n hx hb dX6_shareAbove_0 rfl (lv_at hl 0 rfl) ?_
  refine lv_iload_n hx hb dX6_shareAbove_1 rfl (lv_at hl 1 rfl) ?_
  refine lv_iload_n hx hb dX6_shareAbove_2 rfl (lv_at hl 2 rfl) ?_
  obtain ⟨r_1, hc_2, h⟩ := bd_s h
  refine callTi (As := [.int i1, .int i2]) (rest := []) ⟨hx, hb, hml, hown, hts⟩ (c_X6_timesOf l D cI cJ h6 labels6a guesses6a comes6a sizes6a words6a told6a behind6a shares6a start6a move6a show6a signs6a many6a bestPath6a nextStart6a nextMove6a nextShow6a thrown6 rows6 labels6 guesses6 comes6 sizes6 words6 up6 down6 weightAbove6 weightBelow6 told6 length6 behind6 shares6 over6 start6 move6 show6 signs6 many6 bestPath6 nextStart6 nextMove6 nextShow6 i1 i2 r_1 hc_2) (cwV 2 hts gX6_shareAbove_X6_timesOf rfl rfl rfl (by decide +kernel) ⟨Nat.le_of_ble_eq_true rfl, Nat.le_of_ble_eq_true rfl⟩) hK hP hD hS hA 0 5 rfl rfl rfl rfl hl.1 rfl (Nat.le_of_ble_eq_true rfl) dX6_shareAbove_3 ⟨Nat.zero_le _, Nat.zero_le _⟩ (fun H locs hP hD hS => ?_)
  refine lv_i2l (v := (Int32.toInt64 r_1)) hx hb dX6_shareAbove_6 rfl ?_
  refine lv_aload_n hx hb dX6_shareAbove_7 rfl (lv_at hl 0 rfl) ?_
  refine va_get (D := D) (ci := 5) (v := .int down6) (C := RX6) (T := TX6) (N := 25) hx hb hts hinX6 hown hK.1 hP 0 rfl rfl 8 (by decide) hw1 (fun _ h9 => h9) rfl dX6_shareAbove_8 ?_
  refine lv_i2l (v := (Int32.toInt64 down6)) hx hb dX6_shareAbove_11 rfl ?_
  refine lv_lmul hx hb dX6_shareAbove_12 ?_
  refine lv_aload_n hx hb dX6_shareAbove_13 rfl (lv_at hl 0 rfl) ?_
  refine va_get (D := D) (ci := 5) (v := .int up6) (C := RX6) (T := TX6) (N := 25) hx hb hts hinX6 hown hK.1 hP 0 rfl rfl 7 (by decide) hw3 (fun _ h9 => h9) rfl dX6_shareAbove_14 ?_
  refine lv_i2l (v := (Int32.toInt64 up6)) hx hb dX6_shareAbove_17 rfl ?_
  refine lv_ladd hx hb dX6_shareAbove_18 ?_
  cases h
  exact hret _ _ _ _ hP hD hS dX6_shareAbove_19
def f_X6_shareBelow (i1 : Int32) (rows6 : Int32) (labels6 : Nat → Int32) (guesses6 : Nat → Int32) (sizes6 : Nat → Int32) (words6 : Nat → Int32) (up6 : Int32) (down6 : Int32) : Option (Int64) :=
  Option.bind (f_X6_timesOf i1 (-1) rows6 labels6 guesses6 sizes6 words6) fun r_1 =>
  some (((Int32.toInt64 r_1) * (Int32.toInt64 down6)) + (8 * (Int32.toInt64 up6)))
set_option maxHeartbeats 4000000 in
set_option maxRecDepth 100000 in
theorem c_X6_shareBelow (l : Launch) (D : va_G) (cI cJ : ClassId) (h6 labels6a guesses6a comes6a sizes6a words6a told6a behind6a shares6a start6a move6a show6a signs6a many6a bestPath6a nextStart6a nextMove6a nextShow6a : Nat) (thrown6 : Int32) (rows6 : Int32) (labels6 : Nat → Int32) (guesses6 : Nat → Int32) (comes6 : Nat → Int32) (sizes6 : Nat → Int32) (words6 : Nat → Int32) (up6 : Int32) (down6 : Int32) (weightAbove6 : Int64) (weightBelow6 : Int64) (told6 : Nat → Int32) (length6 : Int32) (behind6 : Nat → Int32) (shares6 : Nat → Int64) (over6 : Int64) (start6 : Nat → Int32) (move6 : Nat → Int32) (show6 : Nat → Int32) (signs6 : Nat → Int32) (many6 : Nat → Int32) (bestPath6 : Nat → Int32) (nextStart6 : Nat → Int32) (nextMove6 : Nat → Int32) (nextShow6 : Nat → Int32) (i1 : Int32) (ret9 : Int64) (h : f_X6_shareBelow i1 rows6 labels6 guesses6 sizes6 words6 up6 down6 = some ret9) : CL l D cI cJ yX6_shareBelow wsX6_shareBelow 2 46 [.ref h6, .int i1] (w6 cI cJ h6 labels6a guesses6a comes6a sizes6a words6a told6a behind6a shares6a start6a move6a show6a signs6a many6a bestPath6a nextStart6a nextMove6a nextShow6a thrown6 rows6 labels6 guesses6 comes6 sizes6 words6 up6 down6 weightAbove6 weightBelow6 told6 length6 behind6 shares6 over6 start6 move6 show6 signs6 many6 bestPath6 nextStart6 nextMove6 nextShow6) (w6 cI cJ h6 labels6a guesses6a comes6a sizes6a words6a told6a behind6a shares6a start6a move6a show6a signs6a many6a bestPath6a nextStart6a nextMove6a nextShow6a thrown6 rows6 labels6 guesses6 comes6 sizes6 words6 up6 down6 weightAbove6 weightBelow6 told6 length6 behind6 shares6 over6 start6 move6 show6 signs6 many6 bestPath6 nextStart6 nextMove6 nextShow6) ret9 := by
  refine entL (cc := cX6_shareBelow) (maxL := 2) (by decide) rfl (Nat.le_of_ble_eq_true rfl) ?_
  intro p e s m args below meth c ls A Q X hret
  obtain ⟨hx, hb, hml, hts, hown, hK, hA, hP, hD, hS, hl, hnm⟩ := X
  have hown : s.vm.findClass RX6 = some m.cls := hown
  have hl : lv_has ls 2 [(0, .ref h6), (1, .int i1)] := hl
  have hw1 : (Cond.fieldLink RX6 29 "CountLearnersModel" "down" "I").before args s = true := hts _ (by decide +kernel)
  have hinX6 : ∀ w ∈ wsX60, w ∈ wsX6_shareBelow := by decide +kernel
  have hw3 : (Cond.constantLong RX6 104 (8)).before args s = true := hts _ (by decide +kernel)
  have hw4 : (Cond.fieldLink RX6 25 "CountLearnersModel" "up" "I").before args s = true := hts _ (by decide +kernel)
  unfold f_X6_shareBelow at h
  refine lv_aload_n hx hb dX6_shareBelow_0 rfl (lv_at hl 0 rfl) ?_
  refine lv_iload_n hx hb dX6_shareBelow_1 rfl (lv_at hl 1 rfl) ?_
  refine lv_iconst (v := (-1)) hx hb dX6_shareBelow_2 (by decide) ?_
  obtain ⟨r_1, hc_2, h⟩ := bd_s h
  refine callTi (As := [.int i1, .int (-1)]) (rest := []) ⟨hx, hb, hml, hown, hts⟩ (c_X6_timesOf l D cI cJ h6 labels6a guesses6a comes6a sizes6a words6a told6a behind6a shares6a start6a move6a show6a signs6a many6a bestPath6a nextStart6a nextMove6a nextShow6a thrown6 rows6 labels6 guesses6 comes6 sizes6 words6 up6 down6 weightAbove6 weightBelow6 told6 length6 behind6 shares6 over6 start6 move6 show6 signs6 many6 bestPath6 nextStart6 nextMove6 nextShow6 i1 (-1) r_1 hc_2) (cwV 2 hts gX6_shareBelow_X6_timesOf rfl rfl rfl (by decide +kernel) ⟨Nat.le_of_ble_eq_true rfl, Nat.le_of_ble_eq_true rfl⟩) hK hP hD hS hA 0 5 rfl rfl rfl rfl hl.1 rfl (Nat.le_of_ble_eq_true rfl) dX6_shareBelow_3 ⟨Nat.zero_le _, Nat.zero_le _⟩ (fun H locs hP hD hS => ?_)
  refine lv_i2l (v := (Int32.toInt64 r_1)) hx hb dX6_shareBelow_6 rfl ?_
  refine lv_aload_n hx hb dX6_shareBelow_7 rfl (lv_at hl 0 rfl) ?_
  refine va_get (D := D) (ci := 5) (v := .int down6) (C := RX6) (T := TX6) (N := 25) hx hb hts hinX6 hown hK.1 hP 0 rfl rfl 8 (by decide) hw1 (fun _ h9 => h9) rfl dX6_shareBelow_8 ?_
  refine lv_i2l (v := (Int32.toInt64 down6)) hx hb dX6_shareBelow_11 rfl ?_
  refine lv_lmul hx hb dX6_shareBelow_12 ?_
  refine lv_ldc2 (v := 8) hx hb hown hw3 dX6_shareBelow_13 ?_
  refine lv_aload_n hx hb dX6_shareBelow_16 rfl (lv_at hl 0 rfl) ?_
  refine va_get (D := D) (ci := 5) (v := .int up6) (C := RX6) (T := TX6) (N := 25) hx hb hts hinX6 hown hK.1 hP 0 rfl rfl 7 (by decide) hw4 (fun _ h9 => h9) rfl dX6_shareBelow_17 ?_
  refine lv_i2l (v := (Int32.toInt64 up6)) hx hb dX6_shareBelow_20 rfl ?_
  refine lv_lmul hx hb dX6_shareBelow_21 ?_
  refine lv_ladd hx hb dX6_shareBelow_22 ?_
  cases h
  exact hret _ _ _ _ hP hD hS dX6_shareBelow_23
def f_X6_share (i1 : Int32) (i2 : Int32) (i3 : Int32) (thrown6 : Int32) (rows6 : Int32) (labels6 : Nat → Int32) (guesses6 : Nat → Int32) (sizes6 : Nat → Int32) (words6 : Nat → Int32) (up6 : Int32) (down6 : Int32) : Option (Int64 × Int32) :=
  nm (α := Int32) (0) fun thrown6_1 =>
  Option.bind (f_X6_within i1 0 3) fun r_2 =>
  if r_2 = 0 then
    some ((-2), thrown6_1)
  else
    Option.bind (f_X6_within i2 0 7) fun r_5 =>
    if r_5 = 0 then
      some ((-2), thrown6_1)
    else
      Option.bind (f_X6_within i3 0 1) fun r_8 =>
      if r_8 = 0 then
        some ((-2), thrown6_1)
      else
        Option.bind (f_X6_shareBelow i1 rows6 labels6 guesses6 sizes6 words6 up6 down6) fun rj_11 =>
        if (lg_cmp rj_11 0) = 0 then
          nm (α := Int32) (1) fun thrown6_20 =>
          some (0, thrown6_20)
        else
          Option.bind (f_X6_shareAbove i1 i2 rows6 labels6 guesses6 sizes6 words6 up6 down6) fun rj_14 =>
          Option.bind (f_X6_shareBelow i1 rows6 labels6 guesses6 sizes6 words6 up6 down6) fun rj_16 =>
          Option.bind (f_X6_side rj_14 rj_16 i3) fun rj_18 =>
          some (rj_18, thrown6_1)
set_option maxHeartbeats 4000000 in
set_option maxRecDepth 100000 in
theorem c_X6_share (l : Launch) (D : va_G) (cI cJ : ClassId) (h6 labels6a guesses6a comes6a sizes6a words6a told6a behind6a shares6a start6a move6a show6a signs6a many6a bestPath6a nextStart6a nextMove6a nextShow6a : Nat) (thrown6 : Int32) (rows6 : Int32) (labels6 : Nat → Int32) (guesses6 : Nat → Int32) (comes6 : Nat → Int32) (sizes6 : Nat → Int32) (words6 : Nat → Int32) (up6 : Int32) (down6 : Int32) (weightAbove6 : Int64) (weightBelow6 : Int64) (told6 : Nat → Int32) (length6 : Int32) (behind6 : Nat → Int32) (shares6 : Nat → Int64) (over6 : Int64) (start6 : Nat → Int32) (move6 : Nat → Int32) (show6 : Nat → Int32) (signs6 : Nat → Int32) (many6 : Nat → Int32) (bestPath6 : Nat → Int32) (nextStart6 : Nat → Int32) (nextMove6 : Nat → Int32) (nextShow6 : Nat → Int32) (i1 : Int32) (i2 : Int32) (i3 : Int32) (ret9 : Int64) (thrown6z : Int32) (h : f_X6_share i1 i2 i3 thrown6 rows6 labels6 guesses6 sizes6 words6 up6 down6 = some (ret9, thrown6z)) : CL l D cI cJ yX6_share wsX6_share 3 68 [.ref h6, .int i1, .int i2, .int i3] (w6 cI cJ h6 labels6a guesses6a comes6a sizes6a words6a told6a behind6a shares6a start6a move6a show6a signs6a many6a bestPath6a nextStart6a nextMove6a nextShow6a thrown6 rows6 labels6 guesses6 comes6 sizes6 words6 up6 down6 weightAbove6 weightBelow6 told6 length6 behind6 shares6 over6 start6 move6 show6 signs6 many6 bestPath6 nextStart6 nextMove6 nextShow6) (w6 cI cJ h6 labels6a guesses6a comes6a sizes6a words6a told6a behind6a shares6a start6a move6a show6a signs6a many6a bestPath6a nextStart6a nextMove6a nextShow6a thrown6z rows6 labels6 guesses6 comes6 sizes6 words6 up6 down6 weightAbove6 weightBelow6 told6 length6 behind6 shares6 over6 start6 move6 show6 signs6 many6 bestPath6 nextStart6 nextMove6 nextShow6) ret9 := by
  refine entL (cc := cX6_share) (maxL := 4) (by decide) rfl (Nat.le_of_ble_eq_true rfl) ?_
  intro p e s m args below meth c ls A Q X hret
  obtain ⟨hx, hb, hml, hts, hown, hK, hA, hP, hD, hS, hl, hnm⟩ := X
  have hown : s.vm.findClass RX6 = some m.cls := hown
  have hl : lv_has ls 4 [(0, .ref h6), (1, .int i1), (2, .int i2), (3, .int i3)] := hl
  have hw1 : (Cond.fieldLink RX6 69 "CountLearnersModel" "thrown" "I").before args s = true := hts _ (by decide +kernel)
  have hinX6 : ∀ w ∈ wsX60, w ∈ wsX6_share := by decide +kernel
  have hw3 : (Cond.constantLong RX6 106 (-2)).before args s = true := hts _ (by decide +kernel)
  unfold f_X6_share at h
  refine lv_aload_n hx hb dX6_share_0 rfl (lv_at hl 0 rfl) ?_
  refine lv_iconst (v := 0) hx hb dX6_share_1 (by decide) ?_
  refine lv_topi (fun thrown6_1 ethrown6_1 => ?_)
  have h := nm_s h thrown6_1 ethrown6_1
  refine va_put (D := D) (ci := 5) (v := .int thrown6_1) (ty := .int) (C := RX6) (T := TX6) (N := 25) hx hb hts hinX6 tyX6 tyX6_ok nmX6 hown hK.1 hP hD hS 0 rfl rfl 0 (by decide) hw1 (fun _ h9 => h9) rfl (by decide +kernel) rfl rfl (Nat.le_of_ble_eq_true rfl) dX6_share_2 (fun H locs hP hD hS => ?_)
  have hP : va_P D vwK (w6 cI cJ h6 labels6a guesses6a comes6a sizes6a words6a told6a behind6a shares6a start6a move6a show6a signs6a many6a bestPath6a nextStart6a nextMove6a nextShow6a thrown6_1 rows6 labels6 guesses6 comes6 sizes6 words6 up6 down6 weightAbove6 weightBelow6 told6 length6 behind6 shares6 over6 start6 move6 show6 signs6 many6 bestPath6 nextStart6 nextMove6 nextShow6) H := hP
  have hD : va_D A (w6 cI cJ h6 labels6a guesses6a comes6a sizes6a words6a told6a behind6a shares6a start6a move6a show6a signs6a many6a bestPath6a nextStart6a nextMove6a nextShow6a thrown6_1 rows6 labels6 guesses6 comes6 sizes6 words6 up6 down6 weightAbove6 weightBelow6 told6 length6 behind6 shares6 over6 start6 move6 show6 signs6 many6 bestPath6 nextStart6 nextMove6 nextShow6) := hD
  refine lv_iload_n hx hb dX6_share_5 rfl (lv_at hl 1 rfl) ?_
  refine lv_iconst (v := 0) hx hb dX6_share_6 (by decide) ?_
  refine lv_iconst (v := 3) hx hb dX6_share_7 (by decide) ?_
  obtain ⟨r_2, hc_3, h⟩ := bd_s h
  refine callPi (As := [.int i1, .int 0, .int 3]) (rest := []) ⟨hx, hb, hml, hown, hts⟩ (c_X6_within l D cI cJ i1 0 3 r_2 hc_3) (va_cwS 3 hts gX6_share_X6_within rfl rfl rfl (by decide +kernel) ⟨Nat.le_of_ble_eq_true rfl, Nat.le_of_ble_eq_true rfl⟩) hK hP hD hS hA rfl hl.1 rfl (Nat.le_of_ble_eq_true rfl) dX6_share_8 ⟨Nat.zero_le _, Nat.zero_le _⟩ (fun H locs hP hD hS => ?_)
  refine lv_if_eq (tgt := 33) hx hb dX6_share_11 (by decide) (fun c_4 => ?_) (fun c_4 => ?_)
  · have h := it_p c_4 h
    refine lv_ldc2 (v := (-2)) hx hb hown hw3 dX6_share_33 ?_
    cases h
    exact hret _ _ _ _ hP hD hS dX6_share_36
  · have h := it_n c_4 h
    refine lv_iload_n hx hb dX6_share_14 rfl (lv_at hl 2 rfl) ?_
    refine lv_iconst (v := 0) hx hb dX6_share_15 (by decide) ?_
    refine lv_bipush (v := 7) hx hb dX6_share_16 (by decide) ?_
    obtain ⟨r_5, hc_6, h⟩ := bd_s h
    refine callPi (As := [.int i2, .int 0, .int 7]) (rest := []) ⟨hx, hb, hml, hown, hts⟩ (c_X6_within l D cI cJ i2 0 7 r_5 hc_6) (va_cwS 3 hts gX6_share_X6_within rfl rfl rfl (by decide +kernel) ⟨Nat.le_of_ble_eq_true rfl, Nat.le_of_ble_eq_true rfl⟩) hK hP hD hS hA rfl hl.1 rfl (Nat.le_of_ble_eq_true rfl) dX6_share_18 ⟨Nat.zero_le _, Nat.zero_le _⟩ (fun H locs hP hD hS => ?_)
    refine lv_if_eq (tgt := 33) hx hb dX6_share_21 (by decide) (fun c_7 => ?_) (fun c_7 => ?_)
    · have h := it_p c_7 h
      refine lv_ldc2 (v := (-2)) hx hb hown hw3 dX6_share_33 ?_
      cases h
      exact hret _ _ _ _ hP hD hS dX6_share_36
    · have h := it_n c_7 h
      refine lv_iload_n hx hb dX6_share_24 rfl (lv_at hl 3 rfl) ?_
      refine lv_iconst (v := 0) hx hb dX6_share_25 (by decide) ?_
      refine lv_iconst (v := 1) hx hb dX6_share_26 (by decide) ?_
      obtain ⟨r_8, hc_9, h⟩ := bd_s h
      refine callPi (As := [.int i3, .int 0, .int 1]) (rest := []) ⟨hx, hb, hml, hown, hts⟩ (c_X6_within l D cI cJ i3 0 1 r_8 hc_9) (va_cwS 3 hts gX6_share_X6_within rfl rfl rfl (by decide +kernel) ⟨Nat.le_of_ble_eq_true rfl, Nat.le_of_ble_eq_true rfl⟩) hK hP hD hS hA rfl hl.1 rfl (Nat.le_of_ble_eq_true rfl) dX6_share_27 ⟨Nat.zero_le _, Nat.zero_le _⟩ (fun H locs hP hD hS => ?_)
      refine lv_if_ne (tgt := 37) hx hb dX6_share_30 (by decide) (fun c_10 => ?_) (fun c_10 => ?_)
      · have h := it_n c_10 h
        refine lv_aload_n hx hb dX6_share_37 rfl (lv_at hl 0 rfl) ?_
        refine lv_iload_n hx hb dX6_share_38 rfl (lv_at hl 1 rfl) ?_
        obtain ⟨rj_11, hc_12, h⟩ := bd_s h
        refine callTl (As := [.int i1]) (rest := []) ⟨hx, hb, hml, hown, hts⟩ (c_X6_shareBelow l D cI cJ h6 labels6a guesses6a comes6a sizes6a words6a told6a behind6a shares6a start6a move6a show6a signs6a many6a bestPath6a nextStart6a nextMove6a nextShow6a thrown6_1 rows6 labels6 guesses6 comes6 sizes6 words6 up6 down6 weightAbove6 weightBelow6 told6 length6 behind6 shares6 over6 start6 move6 show6 signs6 many6 bestPath6 nextStart6 nextMove6 nextShow6 i1 rj_11 hc_12) (cwV 1 hts gX6_share_X6_shareBelow rfl rfl rfl (by decide +kernel) ⟨Nat.le_of_ble_eq_true rfl, Nat.le_of_ble_eq_true rfl⟩) hK hP hD hS hA 0 5 rfl rfl rfl rfl hl.1 rfl (Nat.le_of_ble_eq_true rfl) dX6_share_39 ⟨Nat.zero_le _, Nat.zero_le _⟩ (fun H locs hP hD hS => ?_)
        refine lv_lconst (v := 0) hx hb dX6_share_42 (by decide) ?_
        refine W.lcmp hx hb dX6_share_43 ?_
        refine lv_if_ne (tgt := 54) hx hb dX6_share_44 (by decide) (fun c_13 => ?_) (fun c_13 => ?_)
        · have h := it_n c_13 h
          refine lv_aload_n hx hb dX6_share_54 rfl (lv_at hl 0 rfl) ?_
          refine lv_iload_n hx hb dX6_share_55 rfl (lv_at hl 1 rfl) ?_
          refine lv_iload_n hx hb dX6_share_56 rfl (lv_at hl 2 rfl) ?_
          obtain ⟨rj_14, hc_15, h⟩ := bd_s h
          refine callTl (As := [.int i1, .int i2]) (rest := []) ⟨hx, hb, hml, hown, hts⟩ (c_X6_shareAbove l D cI cJ h6 labels6a guesses6a comes6a sizes6a words6a told6a behind6a shares6a start6a move6a show6a signs6a many6a bestPath6a nextStart6a nextMove6a nextShow6a thrown6_1 rows6 labels6 guesses6 comes6 sizes6 words6 up6 down6 weightAbove6 weightBelow6 told6 length6 behind6 shares6 over6 start6 move6 show6 signs6 many6 bestPath6 nextStart6 nextMove6 nextShow6 i1 i2 rj_14 hc_15) (cwV 2 hts gX6_share_X6_shareAbove rfl rfl rfl (by decide +kernel) ⟨Nat.le_of_ble_eq_true rfl, Nat.le_of_ble_eq_true rfl⟩) hK hP hD hS hA 0 5 rfl rfl rfl rfl hl.1 rfl (Nat.le_of_ble_eq_true rfl) dX6_share_57 ⟨Nat.zero_le _, Nat.zero_le _⟩ (fun H locs hP hD hS => ?_)
          refine lv_aload_n hx hb dX6_share_60 rfl (lv_at hl 0 rfl) ?_
          refine lv_iload_n hx hb dX6_share_61 rfl (lv_at hl 1 rfl) ?_
          obtain ⟨rj_16, hc_17, h⟩ := bd_s h
          refine callTl (As := [.int i1]) (rest := [.long rj_14]) ⟨hx, hb, hml, hown, hts⟩ (c_X6_shareBelow l D cI cJ h6 labels6a guesses6a comes6a sizes6a words6a told6a behind6a shares6a start6a move6a show6a signs6a many6a bestPath6a nextStart6a nextMove6a nextShow6a thrown6_1 rows6 labels6 guesses6 comes6 sizes6 words6 up6 down6 weightAbove6 weightBelow6 told6 length6 behind6 shares6 over6 start6 move6 show6 signs6 many6 bestPath6 nextStart6 nextMove6 nextShow6 i1 rj_16 hc_17) (cwV 1 hts gX6_share_X6_shareBelow rfl rfl rfl (by decide +kernel) ⟨Nat.le_of_ble_eq_true rfl, Nat.le_of_ble_eq_true rfl⟩) hK hP hD hS hA 0 5 rfl rfl rfl rfl hl.1 rfl (Nat.le_of_ble_eq_true rfl) dX6_share_62 ⟨Nat.zero_le _, Nat.zero_le _⟩ (fun H locs hP hD hS => ?_)
          refine lv_iload_n hx hb dX6_share_65 rfl (lv_at hl 3 rfl) ?_
          obtain ⟨rj_18, hc_19, h⟩ := bd_s h
          refine callPl (As := [.long rj_14, .long rj_16, .int i3]) (rest := []) ⟨hx, hb, hml, hown, hts⟩ (c_X6_side l D cI cJ rj_14 rj_16 i3 rj_18 hc_19) (va_cwS 3 hts gX6_share_X6_side rfl rfl rfl (by decide +kernel) ⟨Nat.le_of_ble_eq_true rfl, Nat.le_of_ble_eq_true rfl⟩) hK hP hD hS hA rfl hl.1 rfl (Nat.le_of_ble_eq_true rfl) dX6_share_66 ⟨Nat.zero_le _, Nat.zero_le _⟩ (fun H locs hP hD hS => ?_)
          cases h
          exact hret _ _ _ _ hP hD hS dX6_share_69
        · have h := it_p c_13 h
          refine lv_aload_n hx hb dX6_share_47 rfl (lv_at hl 0 rfl) ?_
          refine lv_iconst (v := 1) hx hb dX6_share_48 (by decide) ?_
          refine lv_topi (fun thrown6_20 ethrown6_20 => ?_)
          have h := nm_s h thrown6_20 ethrown6_20
          refine va_put (D := D) (ci := 5) (v := .int thrown6_20) (ty := .int) (C := RX6) (T := TX6) (N := 25) hx hb hts hinX6 tyX6 tyX6_ok nmX6 hown hK.1 hP hD hS 0 rfl rfl 0 (by decide) hw1 (fun _ h9 => h9) rfl (by decide +kernel) rfl rfl (Nat.le_of_ble_eq_true rfl) dX6_share_49 (fun H locs hP hD hS => ?_)
          have hP : va_P D vwK (w6 cI cJ h6 labels6a guesses6a comes6a sizes6a words6a told6a behind6a shares6a start6a move6a show6a signs6a many6a bestPath6a nextStart6a nextMove6a nextShow6a thrown6_20 rows6 labels6 guesses6 comes6 sizes6 words6 up6 down6 weightAbove6 weightBelow6 told6 length6 behind6 shares6 over6 start6 move6 show6 signs6 many6 bestPath6 nextStart6 nextMove6 nextShow6) H := hP
          have hD : va_D A (w6 cI cJ h6 labels6a guesses6a comes6a sizes6a words6a told6a behind6a shares6a start6a move6a show6a signs6a many6a bestPath6a nextStart6a nextMove6a nextShow6a thrown6_20 rows6 labels6 guesses6 comes6 sizes6 words6 up6 down6 weightAbove6 weightBelow6 told6 length6 behind6 shares6 over6 start6 move6 show6 signs6 many6 bestPath6 nextStart6 nextMove6 nextShow6) := hD
          refine lv_lconst (v := 0) hx hb dX6_share_52 (by decide) ?_
          cases h
          exact hret _ _ _ _ hP hD hS dX6_share_53
      · have h := it_p c_10 h
        refine lv_ldc2 (v := (-2)) hx hb hown hw3 dX6_share_33 ?_
        cases h
        exact hret _ _ _ _ hP hD hS dX6_share_36
def f_X6_weighRow_L24 (j3_7 : Int64) (i1 : Int32) (i2 : Int32) (rows6 : Int32) (labels6 : Nat → Int32) (guesses6 : Nat → Int32) (sizes6 : Nat → Int32) (words6 : Nat → Int32) (up6 : Int32) (down6 : Int32) : Nat → Int32 → Int64 → Int64 → Option (Int32 × Int64 × Int64)
  | 0, _, _, _ => none
  | n + 1, y5_9, weightAbove6_10, weightBelow6_11 =>
  gA 40 sizes6 i1 fun v_16 =>
  if v_16 ≤ y5_9 then
    some (y5_9, weightAbove6_10, weightBelow6_11)
  else
    if (lg_cmp j3_7 0) = 0 then
      nm (α := Int64) (0) fun weightAbove6_29 =>
      if (lg_cmp j3_7 0) = 0 then
        nm (α := Int64) (1) fun weightBelow6_33 =>
        nm (α := Int32) (y5_9 + 1) fun x5_34 =>
        f_X6_weighRow_L24 j3_7 i1 i2 rows6 labels6 guesses6 sizes6 words6 up6 down6 n x5_34 weightAbove6_29 weightBelow6_33
      else
        nm (α := Int64) ((weightBelow6_11 * j3_7)) fun weightBelow6_31 =>
        nm (α := Int32) (y5_9 + 1) fun x5_32 =>
        f_X6_weighRow_L24 j3_7 i1 i2 rows6 labels6 guesses6 sizes6 words6 up6 down6 n x5_32 weightAbove6_29 weightBelow6_31
    else
      gA 240 words6 ((6 * i1) + y5_9) fun v_20 =>
      Option.bind (f_X6_shareAbove i2 v_20 rows6 labels6 guesses6 sizes6 words6 up6 down6) fun rj_21 =>
      nm (α := Int64) ((weightAbove6_10 * rj_21)) fun weightAbove6_23 =>
      if (lg_cmp j3_7 0) = 0 then
        nm (α := Int64) (1) fun weightBelow6_27 =>
        nm (α := Int32) (y5_9 + 1) fun x5_28 =>
        f_X6_weighRow_L24 j3_7 i1 i2 rows6 labels6 guesses6 sizes6 words6 up6 down6 n x5_28 weightAbove6_23 weightBelow6_27
      else
        nm (α := Int64) ((weightBelow6_11 * j3_7)) fun weightBelow6_25 =>
        nm (α := Int32) (y5_9 + 1) fun x5_26 =>
        f_X6_weighRow_L24 j3_7 i1 i2 rows6 labels6 guesses6 sizes6 words6 up6 down6 n x5_26 weightAbove6_23 weightBelow6_25
def f_X6_weighRow (i1 : Int32) (i2 : Int32) (rows6 : Int32) (labels6 : Nat → Int32) (guesses6 : Nat → Int32) (sizes6 : Nat → Int32) (words6 : Nat → Int32) (up6 : Int32) (down6 : Int32) (weightAbove6 : Int64) (weightBelow6 : Int64) : Option (Int64 × Int64) :=
  Option.bind (f_X6_rowsOf i2 rows6 labels6 guesses6) fun r_1 =>
  nm (α := Int64) ((Int32.toInt64 r_1)) fun weightAbove6_3 =>
  nm (α := Int64) (1) fun weightBelow6_4 =>
  Option.bind (f_X6_shareBelow i2 rows6 labels6 guesses6 sizes6 words6 up6 down6) fun rj_5 =>
  nm (α := Int64) (rj_5) fun j3_7 =>
  nm (α := Int32) (0) fun x5_8 =>
  Option.bind (f_X6_weighRow_L24 j3_7 i1 i2 rows6 labels6 guesses6 sizes6 words6 up6 down6 FU x5_8 weightAbove6_3 weightBelow6_4) fun (z5_35, weightAbove6_36, weightBelow6_37) =>
  some (weightAbove6_36, weightBelow6_37)
set_option maxHeartbeats 4000000 in
set_option maxRecDepth 100000 in
theorem c_X6_weighRow (l : Launch) (D : va_G) (cI cJ : ClassId) (h6 labels6a guesses6a comes6a sizes6a words6a told6a behind6a shares6a start6a move6a show6a signs6a many6a bestPath6a nextStart6a nextMove6a nextShow6a : Nat) (thrown6 : Int32) (rows6 : Int32) (labels6 : Nat → Int32) (guesses6 : Nat → Int32) (comes6 : Nat → Int32) (sizes6 : Nat → Int32) (words6 : Nat → Int32) (up6 : Int32) (down6 : Int32) (weightAbove6 : Int64) (weightBelow6 : Int64) (told6 : Nat → Int32) (length6 : Int32) (behind6 : Nat → Int32) (shares6 : Nat → Int64) (over6 : Int64) (start6 : Nat → Int32) (move6 : Nat → Int32) (show6 : Nat → Int32) (signs6 : Nat → Int32) (many6 : Nat → Int32) (bestPath6 : Nat → Int32) (nextStart6 : Nat → Int32) (nextMove6 : Nat → Int32) (nextShow6 : Nat → Int32) (i1 : Int32) (i2 : Int32) (weightAbove6z : Int64) (weightBelow6z : Int64) (h : f_X6_weighRow i1 i2 rows6 labels6 guesses6 sizes6 words6 up6 down6 weightAbove6 weightBelow6 = some (weightAbove6z, weightBelow6z)) : CV l D cI cJ yX6_weighRow wsX6_weighRow 3 68 [.ref h6, .int i1, .int i2] (w6 cI cJ h6 labels6a guesses6a comes6a sizes6a words6a told6a behind6a shares6a start6a move6a show6a signs6a many6a bestPath6a nextStart6a nextMove6a nextShow6a thrown6 rows6 labels6 guesses6 comes6 sizes6 words6 up6 down6 weightAbove6 weightBelow6 told6 length6 behind6 shares6 over6 start6 move6 show6 signs6 many6 bestPath6 nextStart6 nextMove6 nextShow6) (w6 cI cJ h6 labels6a guesses6a comes6a sizes6a words6a told6a behind6a shares6a start6a move6a show6a signs6a many6a bestPath6a nextStart6a nextMove6a nextShow6a thrown6 rows6 labels6 guesses6 comes6 sizes6 words6 up6 down6 weightAbove6z weightBelow6z told6 length6 behind6 shares6 over6 start6 move6 show6 signs6 many6 bestPath6 nextStart6 nextMove6 nextShow6) := by
  refine entV (cc := cX6_weighRow) (maxL := 6) (by decide) rfl (Nat.le_of_ble_eq_true rfl) ?_
  intro p e s m args below meth c ls A Q X hret
  obtain ⟨hx, hb, hml, hts, hown, hK, hA, hP, hD, hS, hl, hnm⟩ := X
  have hown : s.vm.findClass RX6 = some m.cls := hown
  have hl : lv_has ls 6 [(0, .ref h6), (1, .int i1), (2, .int i2)] := hl
  have hw1 : (Cond.fieldLink RX6 120 "CountLearnersModel" "weightAbove" "J").before args s = true := hts _ (by decide +kernel)
  have hinX6 : ∀ w ∈ wsX60, w ∈ wsX6_weighRow := by decide +kernel
  have hw3 : (Cond.fieldLink RX6 124 "CountLearnersModel" "weightBelow" "J").before args s = true := hts _ (by decide +kernel)
  have hw4 : (Cond.fieldLink RX6 19 "CountLearnersModel" "sizes" "[I").before args s = true := hts _ (by decide +kernel)
  have hw5 : (Cond.fieldLink RX6 22 "CountLearnersModel" "words" "[I").before args s = true := hts _ (by decide +kernel)
  unfold f_X6_weighRow at h
  refine lv_aload_n hx hb dX6_weighRow_0 rfl (lv_at hl 0 rfl) ?_
  refine lv_aload_n hx hb dX6_weighRow_1 rfl (lv_at hl 0 rfl) ?_
  refine lv_iload_n hx hb dX6_weighRow_2 rfl (lv_at hl 2 rfl) ?_
  obtain ⟨r_1, hc_2, h⟩ := bd_s h
  refine callTi (As := [.int i2]) (rest := [.ref h6]) ⟨hx, hb, hml, hown, hts⟩ (c_X6_rowsOf l D cI cJ h6 labels6a guesses6a comes6a sizes6a words6a told6a behind6a shares6a start6a move6a show6a signs6a many6a bestPath6a nextStart6a nextMove6a nextShow6a thrown6 rows6 labels6 guesses6 comes6 sizes6 words6 up6 down6 weightAbove6 weightBelow6 told6 length6 behind6 shares6 over6 start6 move6 show6 signs6 many6 bestPath6 nextStart6 nextMove6 nextShow6 i2 r_1 hc_2) (cwV 1 hts gX6_weighRow_X6_rowsOf rfl rfl rfl (by decide +kernel) ⟨Nat.le_of_ble_eq_true rfl, Nat.le_of_ble_eq_true rfl⟩) hK hP hD hS hA 0 5 rfl rfl rfl rfl hl.1 rfl (Nat.le_of_ble_eq_true rfl) dX6_weighRow_3 ⟨Nat.zero_le _, Nat.zero_le _⟩ (fun H locs hP hD hS => ?_)
  refine lv_i2l (v := (Int32.toInt64 r_1)) hx hb dX6_weighRow_6 rfl ?_
  refine lv_topl (fun weightAbove6_3 eweightAbove6_3 => ?_)
  have h := nm_s h weightAbove6_3 eweightAbove6_3
  refine va_put (D := D) (ci := 5) (v := .long weightAbove6_3) (ty := .long) (C := RX6) (T := TX6) (N := 25) hx hb hts hinX6 tyX6 tyX6_ok nmX6 hown hK.1 hP hD hS 0 rfl rfl 9 (by decide) hw1 (fun _ h9 => h9) rfl (by decide +kernel) rfl rfl (Nat.le_of_ble_eq_true rfl) dX6_weighRow_7 (fun H locs hP hD hS => ?_)
  have hP : va_P D vwK (w6 cI cJ h6 labels6a guesses6a comes6a sizes6a words6a told6a behind6a shares6a start6a move6a show6a signs6a many6a bestPath6a nextStart6a nextMove6a nextShow6a thrown6 rows6 labels6 guesses6 comes6 sizes6 words6 up6 down6 weightAbove6_3 weightBelow6 told6 length6 behind6 shares6 over6 start6 move6 show6 signs6 many6 bestPath6 nextStart6 nextMove6 nextShow6) H := hP
  have hD : va_D A (w6 cI cJ h6 labels6a guesses6a comes6a sizes6a words6a told6a behind6a shares6a start6a move6a show6a signs6a many6a bestPath6a nextStart6a nextMove6a nextShow6a thrown6 rows6 labels6 guesses6 comes6 sizes6 words6 up6 down6 weightAbove6_3 weightBelow6 told6 length6 behind6 shares6 over6 start6 move6 show6 signs6 many6 bestPath6 nextStart6 nextMove6 nextShow6) := hD
  refine lv_aload_n hx hb dX6_weighRow_10 rfl (lv_at hl 0 rfl) ?_
  refine lv_lconst (v := 1) hx hb dX6_weighRow_11 (by decide) ?_
  refine lv_topl (fun weightBelow6_4 eweightBelow6_4 => ?_)
  have h := nm_s h weightBelow6_4 eweightBelow6_4
  refine va_put (D := D) (ci := 5) (v := .long weightBelow6_4) (ty := .long) (C := RX6) (T := TX6) (N := 25) hx hb hts hinX6 tyX6 tyX6_ok nmX6 hown hK.1 hP hD hS 0 rfl rfl 10 (by decide) hw3 (fun _ h9 => h9) rfl (by decide +kernel) rfl rfl (Nat.le_of_ble_eq_true rfl) dX6_weighRow_12 (fun H locs hP hD hS => ?_)
  have hP : va_P D vwK (w6 cI cJ h6 labels6a guesses6a comes6a sizes6a words6a told6a behind6a shares6a start6a move6a show6a signs6a many6a bestPath6a nextStart6a nextMove6a nextShow6a thrown6 rows6 labels6 guesses6 comes6 sizes6 words6 up6 down6 weightAbove6_3 weightBelow6_4 told6 length6 behind6 shares6 over6 start6 move6 show6 signs6 many6 bestPath6 nextStart6 nextMove6 nextShow6) H := hP
  have hD : va_D A (w6 cI cJ h6 labels6a guesses6a comes6a sizes6a words6a told6a behind6a shares6a start6a move6a show6a signs6a many6a bestPath6a nextStart6a nextMove6a nextShow6a thrown6 rows6 labels6 guesses6 comes6 sizes6 words6 up6 down6 weightAbove6_3 weightBelow6_4 told6 length6 behind6 shares6 over6 start6 move6 show6 signs6 many6 bestPath6 nextStart6 nextMove6 nextShow6) := hD
  refine lv_aload_n hx hb dX6_weighRow_15 rfl (lv_at hl 0 rfl) ?_
  refine lv_iload_n hx hb dX6_weighRow_16 rfl (lv_at hl 2 rfl) ?_
  obtain ⟨rj_5, hc_6, h⟩ := bd_s h
  refine callTl (As := [.int i2]) (rest := []) ⟨hx, hb, hml, hown, hts⟩ (c_X6_shareBelow l D cI cJ h6 labels6a guesses6a comes6a sizes6a words6a told6a behind6a shares6a start6a move6a show6a signs6a many6a bestPath6a nextStart6a nextMove6a nextShow6a thrown6 rows6 labels6 guesses6 comes6 sizes6 words6 up6 down6 weightAbove6_3 weightBelow6_4 told6 length6 behind6 shares6 over6 start6 move6 show6 signs6 many6 bestPath6 nextStart6 nextMove6 nextShow6 i2 rj_5 hc_6) (cwV 1 hts gX6_weighRow_X6_shareBelow rfl rfl rfl (by decide +kernel) ⟨Nat.le_of_ble_eq_true rfl, Nat.le_of_ble_eq_true rfl⟩) hK hP hD hS hA 0 5 rfl rfl rfl rfl hl.1 rfl (Nat.le_of_ble_eq_true rfl) dX6_weighRow_17 ⟨Nat.zero_le _, Nat.zero_le _⟩ (fun H locs hP hD hS => ?_)
  refine lv_topl (fun j3_7 ej3_7 => ?_)
  have h := nm_s h j3_7 ej3_7
  refine lv_lstore_n (lv' := [(3, .long j3_7), (0, .ref h6), (1, .int i1), (2, .int i2)]) hx hb dX6_weighRow_20 rfl hl (by decide) rfl (fun ls hl => ?_)
  refine lv_iconst (v := 0) hx hb dX6_weighRow_21 (by decide) ?_
  refine lv_topi (fun x5_8 ex5_8 => ?_)
  have h := nm_s h x5_8 ex5_8
  refine lv_istore (lv' := [(5, .int x5_8), (3, .long j3_7), (0, .ref h6), (1, .int i1), (2, .int i2)]) hx hb dX6_weighRow_22 hl (by decide) rfl (fun ls hl => ?_)
  have L24 : ∀ (n : Nat) (y5_9 : Int32) (weightAbove6_10 : Int64) (weightBelow6_11 : Int64) (z5_12 : Int32) (weightAbove6_13 : Int64) (weightBelow6_14 : Int64), f_X6_weighRow_L24 j3_7 i1 i2 rows6 labels6 guesses6 sizes6 words6 up6 down6 n y5_9 weightAbove6_10 weightBelow6_11 = some (z5_12, weightAbove6_13, weightBelow6_14) → ∀ (H : Heap) (locs : List Loc) (ls : Array Slot), va_P D vwK (w6 cI cJ h6 labels6a guesses6a comes6a sizes6a words6a told6a behind6a shares6a start6a move6a show6a signs6a many6a bestPath6a nextStart6a nextMove6a nextShow6a thrown6 rows6 labels6 guesses6 comes6 sizes6 words6 up6 down6 weightAbove6_10 weightBelow6_11 told6 length6 behind6 shares6 over6 start6 move6 show6 signs6 many6 bestPath6 nextStart6 nextMove6 nextShow6) H → va_D A (w6 cI cJ h6 labels6a guesses6a comes6a sizes6a words6a told6a behind6a shares6a start6a move6a show6a signs6a many6a bestPath6a nextStart6a nextMove6a nextShow6a thrown6 rows6 labels6 guesses6 comes6 sizes6 words6 up6 down6 weightAbove6_10 weightBelow6_11 told6 length6 behind6 shares6 over6 start6 move6 show6 signs6 many6 bestPath6 nextStart6 nextMove6 nextShow6) → va_S A s.heap H locs → lv_has ls 6 [(5, .int y5_9), (3, .long j3_7), (0, .ref h6), (1, .int i1), (2, .int i2)] → (∀ (H : Heap) (locs : List Loc) (ls : Array Slot), va_P D vwK (w6 cI cJ h6 labels6a guesses6a comes6a sizes6a words6a told6a behind6a shares6a start6a move6a show6a signs6a many6a bestPath6a nextStart6a nextMove6a nextShow6a thrown6 rows6 labels6 guesses6 comes6 sizes6 words6 up6 down6 weightAbove6_13 weightBelow6_14 told6 length6 behind6 shares6 over6 start6 move6 show6 signs6 many6 bestPath6 nextStart6 nextMove6 nextShow6) H → va_D A (w6 cI cJ h6 labels6a guesses6a comes6a sizes6a words6a told6a behind6a shares6a start6a move6a show6a signs6a many6a bestPath6a nextStart6a nextMove6a nextShow6a thrown6 rows6 labels6 guesses6 comes6 sizes6 words6 up6 down6 weightAbove6_13 weightBelow6_14 told6 length6 behind6 shares6 over6 start6 move6 show6 signs6 many6 bestPath6 nextStart6 nextMove6 nextShow6) → va_S A s.heap H locs → lv_has ls 6 [] → W p l e (rmOf 3 68) s m args below meth c H locs 0 0 Q (F0 m 97 ls [])) → W p l e (rmOf 3 68) s m args below meth c H locs 0 0 Q (F0 m 24 ls []) := by
    intro n
    induction n with
    | zero => intro y5_9 weightAbove6_10 weightBelow6_11 z5_12 weightAbove6_13 weightBelow6_14 h; rw [f_X6_weighRow_L24.eq_1] at h; cases h
    | succ n ih =>
      intro y5_9 weightAbove6_10 weightBelow6_11 z5_12 weightAbove6_13 weightBelow6_14 h H locs ls hP hD hS hl K
      rw [f_X6_weighRow_L24.eq_2] at h
      refine lv_iload hx hb dX6_weighRow_24 (lv_at hl 0 rfl) ?_
      refine lv_aload_n hx hb dX6_weighRow_26 rfl (lv_at hl 2 rfl) ?_
      refine va_get (D := D) (ci := 5) (v := .ref sizes6a) (C := RX6) (T := TX6) (N := 25) hx hb hts hinX6 hown hK.1 hP 0 rfl rfl 5 (by decide) hw4 (fun _ h9 => h9) rfl dX6_weighRow_27 ?_
      refine lv_iload_n hx hb dX6_weighRow_30 rfl (lv_at hl 3 rfl) ?_
      obtain ⟨hi_15, h⟩ := gA_s h
      refine va_iald hx hb hK.1 hP 4 0 rfl rfl hi_15 dX6_weighRow_31 ?_
      refine lv_topi (fun v_16 ev_16 => ?_)
      have h := h v_16 ev_16
      refine lv_icmp_ge (tgt := 97) hx hb dX6_weighRow_32 (by decide) (fun c_17 => ?_) (fun c_17 => ?_)
      · have h := it_p c_17 h
        cases h
        exact K _ _ _ hP hD hS (lv_sub hl [] rfl)
      · have h := it_n c_17 h
        refine lv_aload_n hx hb dX6_weighRow_35 rfl (lv_at hl 2 rfl) ?_
        refine lv_lload_n hx hb dX6_weighRow_36 rfl (lv_at hl 1 rfl) ?_
        refine lv_lconst (v := 0) hx hb dX6_weighRow_37 (by decide) ?_
        refine W.lcmp hx hb dX6_weighRow_38 ?_
        refine lv_if_ne (tgt := 46) hx hb dX6_weighRow_39 (by decide) (fun c_18 => ?_) (fun c_18 => ?_)
        · have h := it_n c_18 h
          refine lv_aload_n hx hb dX6_weighRow_46 rfl (lv_at hl 2 rfl) ?_
          refine va_get (D := D) (ci := 5) (v := .long weightAbove6_10) (C := RX6) (T := TX6) (N := 25) hx hb hts hinX6 hown hK.1 hP 0 rfl rfl 9 (by decide) hw1 (fun _ h9 => h9) rfl dX6_weighRow_47 ?_
          refine lv_aload_n hx hb dX6_weighRow_50 rfl (lv_at hl 2 rfl) ?_
          refine lv_iload_n hx hb dX6_weighRow_51 rfl (lv_at hl 4 rfl) ?_
          refine lv_aload_n hx hb dX6_weighRow_52 rfl (lv_at hl 2 rfl) ?_
          refine va_get (D := D) (ci := 5) (v := .ref words6a) (C := RX6) (T := TX6) (N := 25) hx hb hts hinX6 hown hK.1 hP 0 rfl rfl 6 (by decide) hw5 (fun _ h9 => h9) rfl dX6_weighRow_53 ?_
          refine lv_bipush (v := 6) hx hb dX6_weighRow_56 (by decide) ?_
          refine lv_iload_n hx hb dX6_weighRow_58 rfl (lv_at hl 3 rfl) ?_
          refine lv_imul hx hb dX6_weighRow_59 ?_
          refine lv_iload hx hb dX6_weighRow_60 (lv_at hl 0 rfl) ?_
          refine lv_iadd hx hb dX6_weighRow_62 ?_
          obtain ⟨hi_19, h⟩ := gA_s h
          refine va_iald hx hb hK.1 hP 5 0 rfl rfl hi_19 dX6_weighRow_63 ?_
          refine lv_topi (fun v_20 ev_20 => ?_)
          have h := h v_20 ev_20
          obtain ⟨rj_21, hc_22, h⟩ := bd_s h
          refine callTl (As := [.int i2, .int v_20]) (rest := [.long weightAbove6_10, .ref h6]) ⟨hx, hb, hml, hown, hts⟩ (c_X6_shareAbove l D cI cJ h6 labels6a guesses6a comes6a sizes6a words6a told6a behind6a shares6a start6a move6a show6a signs6a many6a bestPath6a nextStart6a nextMove6a nextShow6a thrown6 rows6 labels6 guesses6 comes6 sizes6 words6 up6 down6 weightAbove6_10 weightBelow6_11 told6 length6 behind6 shares6 over6 start6 move6 show6 signs6 many6 bestPath6 nextStart6 nextMove6 nextShow6 i2 v_20 rj_21 hc_22) (cwV 2 hts gX6_weighRow_X6_shareAbove rfl rfl rfl (by decide +kernel) ⟨Nat.le_of_ble_eq_true rfl, Nat.le_of_ble_eq_true rfl⟩) hK hP hD hS hA 0 5 rfl rfl rfl rfl hl.1 rfl (Nat.le_of_ble_eq_true rfl) dX6_weighRow_64 ⟨Nat.zero_le _, Nat.zero_le _⟩ (fun H locs hP hD hS => ?_)
          refine lv_lmul hx hb dX6_weighRow_67 ?_
          refine lv_topl (fun weightAbove6_23 eweightAbove6_23 => ?_)
          have h := nm_s h weightAbove6_23 eweightAbove6_23
          refine va_put (D := D) (ci := 5) (v := .long weightAbove6_23) (ty := .long) (C := RX6) (T := TX6) (N := 25) hx hb hts hinX6 tyX6 tyX6_ok nmX6 hown hK.1 hP hD hS 0 rfl rfl 9 (by decide) hw1 (fun _ h9 => h9) rfl (by decide +kernel) rfl rfl (Nat.le_of_ble_eq_true rfl) dX6_weighRow_68 (fun H locs hP hD hS => ?_)
          have hP : va_P D vwK (w6 cI cJ h6 labels6a guesses6a comes6a sizes6a words6a told6a behind6a shares6a start6a move6a show6a signs6a many6a bestPath6a nextStart6a nextMove6a nextShow6a thrown6 rows6 labels6 guesses6 comes6 sizes6 words6 up6 down6 weightAbove6_23 weightBelow6_11 told6 length6 behind6 shares6 over6 start6 move6 show6 signs6 many6 bestPath6 nextStart6 nextMove6 nextShow6) H := hP
          have hD : va_D A (w6 cI cJ h6 labels6a guesses6a comes6a sizes6a words6a told6a behind6a shares6a start6a move6a show6a signs6a many6a bestPath6a nextStart6a nextMove6a nextShow6a thrown6 rows6 labels6 guesses6 comes6 sizes6 words6 up6 down6 weightAbove6_23 weightBelow6_11 told6 length6 behind6 shares6 over6 start6 move6 show6 signs6 many6 bestPath6 nextStart6 nextMove6 nextShow6) := hD
          refine lv_aload_n hx hb dX6_weighRow_71 rfl (lv_at hl 2 rfl) ?_
          refine lv_lload_n hx hb dX6_weighRow_72 rfl (lv_at hl 1 rfl) ?_
          refine lv_lconst (v := 0) hx hb dX6_weighRow_73 (by decide) ?_
          refine W.lcmp hx hb dX6_weighRow_74 ?_
          refine lv_if_ne (tgt := 82) hx hb dX6_weighRow_75 (by decide) (fun c_24 => ?_) (fun c_24 => ?_)
          · have h := it_n c_24 h
            refine lv_aload_n hx hb dX6_weighRow_82 rfl (lv_at hl 2 rfl) ?_
            refine va_get (D := D) (ci := 5) (v := .long weightBelow6_11) (C := RX6) (T := TX6) (N := 25) hx hb hts hinX6 hown hK.1 hP 0 rfl rfl 10 (by decide) hw3 (fun _ h9 => h9) rfl dX6_weighRow_83 ?_
            refine lv_lload_n hx hb dX6_weighRow_86 rfl (lv_at hl 1 rfl) ?_
            refine lv_lmul hx hb dX6_weighRow_87 ?_
            refine lv_topl (fun weightBelow6_25 eweightBelow6_25 => ?_)
            have h := nm_s h weightBelow6_25 eweightBelow6_25
            refine va_put (D := D) (ci := 5) (v := .long weightBelow6_25) (ty := .long) (C := RX6) (T := TX6) (N := 25) hx hb hts hinX6 tyX6 tyX6_ok nmX6 hown hK.1 hP hD hS 0 rfl rfl 10 (by decide) hw3 (fun _ h9 => h9) rfl (by decide +kernel) rfl rfl (Nat.le_of_ble_eq_true rfl) dX6_weighRow_88 (fun H locs hP hD hS => ?_)
            have hP : va_P D vwK (w6 cI cJ h6 labels6a guesses6a comes6a sizes6a words6a told6a behind6a shares6a start6a move6a show6a signs6a many6a bestPath6a nextStart6a nextMove6a nextShow6a thrown6 rows6 labels6 guesses6 comes6 sizes6 words6 up6 down6 weightAbove6_23 weightBelow6_25 told6 length6 behind6 shares6 over6 start6 move6 show6 signs6 many6 bestPath6 nextStart6 nextMove6 nextShow6) H := hP
            have hD : va_D A (w6 cI cJ h6 labels6a guesses6a comes6a sizes6a words6a told6a behind6a shares6a start6a move6a show6a signs6a many6a bestPath6a nextStart6a nextMove6a nextShow6a thrown6 rows6 labels6 guesses6 comes6 sizes6 words6 up6 down6 weightAbove6_23 weightBelow6_25 told6 length6 behind6 shares6 over6 start6 move6 show6 signs6 many6 bestPath6 nextStart6 nextMove6 nextShow6) := hD
            obtain ⟨x5_26, ex5_26⟩ : ∃ z : Int32, z = y5_9 + 1 := ⟨_, rfl⟩
            have h := nm_s h x5_26 ex5_26
            refine lv_iinc (v := x5_26) (lv' := [(5, .int x5_26), (3, .long j3_7), (0, .ref h6), (1, .int i1), (2, .int i2)]) hx hb dX6_weighRow_91 hl (k := 0) rfl (by rw [ex5_26]; rfl) (by decide) rfl (fun ls hl => ?_)
            refine lv_goto (tgt := 24) hx hb dX6_weighRow_94 (by decide) ?_
            exact ih _ _ _ _ _ _ h _ _ _ hP hD hS (lv_sub hl [0, 1, 2, 3, 4] rfl) K
          · have h := it_p c_24 h
            refine lv_lconst (v := 1) hx hb dX6_weighRow_78 (by decide) ?_
            refine lv_goto (tgt := 88) hx hb dX6_weighRow_79 (by decide) ?_
            refine lv_topl (fun weightBelow6_27 eweightBelow6_27 => ?_)
            have h := nm_s h weightBelow6_27 eweightBelow6_27
            refine va_put (D := D) (ci := 5) (v := .long weightBelow6_27) (ty := .long) (C := RX6) (T := TX6) (N := 25) hx hb hts hinX6 tyX6 tyX6_ok nmX6 hown hK.1 hP hD hS 0 rfl rfl 10 (by decide) hw3 (fun _ h9 => h9) rfl (by decide +kernel) rfl rfl (Nat.le_of_ble_eq_true rfl) dX6_weighRow_88 (fun H locs hP hD hS => ?_)
            have hP : va_P D vwK (w6 cI cJ h6 labels6a guesses6a comes6a sizes6a words6a told6a behind6a shares6a start6a move6a show6a signs6a many6a bestPath6a nextStart6a nextMove6a nextShow6a thrown6 rows6 labels6 guesses6 comes6 sizes6 words6 up6 down6 weightAbove6_23 weightBelow6_27 told6 length6 behind6 shares6 over6 start6 move6 show6 signs6 many6 bestPath6 nextStart6 nextMove6 nextShow6) H := hP
            have hD : va_D A (w6 cI cJ h6 labels6a guesses6a comes6a sizes6a words6a told6a behind6a shares6a start6a move6a show6a signs6a many6a bestPath6a nextStart6a nextMove6a nextShow6a thrown6 rows6 labels6 guesses6 comes6 sizes6 words6 up6 down6 weightAbove6_23 weightBelow6_27 told6 length6 behind6 shares6 over6 start6 move6 show6 signs6 many6 bestPath6 nextStart6 nextMove6 nextShow6) := hD
            obtain ⟨x5_28, ex5_28⟩ : ∃ z : Int32, z = y5_9 + 1 := ⟨_, rfl⟩
            have h := nm_s h x5_28 ex5_28
            refine lv_iinc (v := x5_28) (lv' := [(5, .int x5_28), (3, .long j3_7), (0, .ref h6), (1, .int i1), (2, .int i2)]) hx hb dX6_weighRow_91 hl (k := 0) rfl (by rw [ex5_28]; rfl) (by decide) rfl (fun ls hl => ?_)
            refine lv_goto (tgt := 24) hx hb dX6_weighRow_94 (by decide) ?_
            exact ih _ _ _ _ _ _ h _ _ _ hP hD hS (lv_sub hl [0, 1, 2, 3, 4] rfl) K
        · have h := it_p c_18 h
          refine lv_lconst (v := 0) hx hb dX6_weighRow_42 (by decide) ?_
          refine lv_goto (tgt := 68) hx hb dX6_weighRow_43 (by decide) ?_
          refine lv_topl (fun weightAbove6_29 eweightAbove6_29 => ?_)
          have h := nm_s h weightAbove6_29 eweightAbove6_29
          refine va_put (D := D) (ci := 5) (v := .long weightAbove6_29) (ty := .long) (C := RX6) (T := TX6) (N := 25) hx hb hts hinX6 tyX6 tyX6_ok nmX6 hown hK.1 hP hD hS 0 rfl rfl 9 (by decide) hw1 (fun _ h9 => h9) rfl (by decide +kernel) rfl rfl (Nat.le_of_ble_eq_true rfl) dX6_weighRow_68 (fun H locs hP hD hS => ?_)
          have hP : va_P D vwK (w6 cI cJ h6 labels6a guesses6a comes6a sizes6a words6a told6a behind6a shares6a start6a move6a show6a signs6a many6a bestPath6a nextStart6a nextMove6a nextShow6a thrown6 rows6 labels6 guesses6 comes6 sizes6 words6 up6 down6 weightAbove6_29 weightBelow6_11 told6 length6 behind6 shares6 over6 start6 move6 show6 signs6 many6 bestPath6 nextStart6 nextMove6 nextShow6) H := hP
          have hD : va_D A (w6 cI cJ h6 labels6a guesses6a comes6a sizes6a words6a told6a behind6a shares6a start6a move6a show6a signs6a many6a bestPath6a nextStart6a nextMove6a nextShow6a thrown6 rows6 labels6 guesses6 comes6 sizes6 words6 up6 down6 weightAbove6_29 weightBelow6_11 told6 length6 behind6 shares6 over6 start6 move6 show6 signs6 many6 bestPath6 nextStart6 nextMove6 nextShow6) := hD
          refine lv_aload_n hx hb dX6_weighRow_71 rfl (lv_at hl 2 rfl) ?_
          refine lv_lload_n hx hb dX6_weighRow_72 rfl (lv_at hl 1 rfl) ?_
          refine lv_lconst (v := 0) hx hb dX6_weighRow_73 (by decide) ?_
          refine W.lcmp hx hb dX6_weighRow_74 ?_
          refine lv_if_ne (tgt := 82) hx hb dX6_weighRow_75 (by decide) (fun c_30 => ?_) (fun c_30 => ?_)
          · have h := it_n c_30 h
            refine lv_aload_n hx hb dX6_weighRow_82 rfl (lv_at hl 2 rfl) ?_
            refine va_get (D := D) (ci := 5) (v := .long weightBelow6_11) (C := RX6) (T := TX6) (N := 25) hx hb hts hinX6 hown hK.1 hP 0 rfl rfl 10 (by decide) hw3 (fun _ h9 => h9) rfl dX6_weighRow_83 ?_
            refine lv_lload_n hx hb dX6_weighRow_86 rfl (lv_at hl 1 rfl) ?_
            refine lv_lmul hx hb dX6_weighRow_87 ?_
            refine lv_topl (fun weightBelow6_31 eweightBelow6_31 => ?_)
            have h := nm_s h weightBelow6_31 eweightBelow6_31
            refine va_put (D := D) (ci := 5) (v := .long weightBelow6_31) (ty := .long) (C := RX6) (T := TX6) (N := 25) hx hb hts hinX6 tyX6 tyX6_ok nmX6 hown hK.1 hP hD hS 0 rfl rfl 10 (by decide) hw3 (fun _ h9 => h9) rfl (by decide +kernel) rfl rfl (Nat.le_of_ble_eq_true rfl) dX6_weighRow_88 (fun H locs hP hD hS => ?_)
            have hP : va_P D vwK (w6 cI cJ h6 labels6a guesses6a comes6a sizes6a words6a told6a behind6a shares6a start6a move6a show6a signs6a many6a bestPath6a nextStart6a nextMove6a nextShow6a thrown6 rows6 labels6 guesses6 comes6 sizes6 words6 up6 down6 weightAbove6_29 weightBelow6_31 told6 length6 behind6 shares6 over6 start6 move6 show6 signs6 many6 bestPath6 nextStart6 nextMove6 nextShow6) H := hP
            have hD : va_D A (w6 cI cJ h6 labels6a guesses6a comes6a sizes6a words6a told6a behind6a shares6a start6a move6a show6a signs6a many6a bestPath6a nextStart6a nextMove6a nextShow6a thrown6 rows6 labels6 guesses6 comes6 sizes6 words6 up6 down6 weightAbove6_29 weightBelow6_31 told6 length6 behind6 shares6 over6 start6 move6 show6 signs6 many6 bestPath6 nextStart6 nextMove6 nextShow6) := hD
            obtain ⟨x5_32, ex5_32⟩ : ∃ z : Int32, z = y5_9 + 1 := ⟨_, rfl⟩
            have h := nm_s h x5_32 ex5_32
            refine lv_iinc (v := x5_32) (lv' := [(5, .int x5_32), (3, .long j3_7), (0, .ref h6), (1, .int i1), (2, .int i2)]) hx hb dX6_weighRow_91 hl (k := 0) rfl (by rw [ex5_32]; rfl) (by decide) rfl (fun ls hl => ?_)
            refine lv_goto (tgt := 24) hx hb dX6_weighRow_94 (by decide) ?_
            exact ih _ _ _ _ _ _ h _ _ _ hP hD hS (lv_sub hl [0, 1, 2, 3, 4] rfl) K
          · have h := it_p c_30 h
            refine lv_lconst (v := 1) hx hb dX6_weighRow_78 (by decide) ?_
            refine lv_goto (tgt := 88) hx hb dX6_weighRow_79 (by decide) ?_
            refine lv_topl (fun weightBelow6_33 eweightBelow6_33 => ?_)
            have h := nm_s h weightBelow6_33 eweightBelow6_33
            refine va_put (D := D) (ci := 5) (v := .long weightBelow6_33) (ty := .long) (C := RX6) (T := TX6) (N := 25) hx hb hts hinX6 tyX6 tyX6_ok nmX6 hown hK.1 hP hD hS 0 rfl rfl 10 (by decide) hw3 (fun _ h9 => h9) rfl (by decide +kernel) rfl rfl (Nat.le_of_ble_eq_true rfl) dX6_weighRow_88 (fun H locs hP hD hS => ?_)
            have hP : va_P D vwK (w6 cI cJ h6 labels6a guesses6a comes6a sizes6a words6a told6a behind6a shares6a start6a move6a show6a signs6a many6a bestPath6a nextStart6a nextMove6a nextShow6a thrown6 rows6 labels6 guesses6 comes6 sizes6 words6 up6 down6 weightAbove6_29 weightBelow6_33 told6 length6 behind6 shares6 over6 start6 move6 show6 signs6 many6 bestPath6 nextStart6 nextMove6 nextShow6) H := hP
            have hD : va_D A (w6 cI cJ h6 labels6a guesses6a comes6a sizes6a words6a told6a behind6a shares6a start6a move6a show6a signs6a many6a bestPath6a nextStart6a nextMove6a nextShow6a thrown6 rows6 labels6 guesses6 comes6 sizes6 words6 up6 down6 weightAbove6_29 weightBelow6_33 told6 length6 behind6 shares6 over6 start6 move6 show6 signs6 many6 bestPath6 nextStart6 nextMove6 nextShow6) := hD
            obtain ⟨x5_34, ex5_34⟩ : ∃ z : Int32, z = y5_9 + 1 := ⟨_, rfl⟩
            have h := nm_s h x5_34 ex5_34
            refine lv_iinc (v := x5_34) (lv' := [(5, .int x5_34), (3, .long j3_7), (0, .ref h6), (1, .int i1), (2, .int i2)]) hx hb dX6_weighRow_91 hl (k := 0) rfl (by rw [ex5_34]; rfl) (by decide) rfl (fun ls hl => ?_)
            refine lv_goto (tgt := 24) hx hb dX6_weighRow_94 (by decide) ?_
            exact ih _ _ _ _ _ _ h _ _ _ hP hD hS (lv_sub hl [0, 1, 2, 3, 4] rfl) K
  obtain ⟨⟨z5_35, weightAbove6_36, weightBelow6_37⟩, hl_38, h⟩ := bd_s h
  refine L24 FU x5_8 weightAbove6_3 weightBelow6_4 _ _ _ hl_38 _ _ _ hP hD hS (lv_sub hl [0, 1, 2, 3, 4] rfl) (fun H locs ls hP hD hS hl => ?_)
  cases h
  exact hret _ _ _ _ hP hD hS dX6_weighRow_97
def f_X6_weight (i1 : Int32) (i2 : Int32) (i3 : Int32) (thrown6 : Int32) (rows6 : Int32) (labels6 : Nat → Int32) (guesses6 : Nat → Int32) (sizes6 : Nat → Int32) (words6 : Nat → Int32) (up6 : Int32) (down6 : Int32) (weightAbove6 : Int64) (weightBelow6 : Int64) : Option (Int64 × Int32 × Int64 × Int64) :=
  nm (α := Int32) (0) fun thrown6_1 =>
  Option.bind (f_X6_isRow i1 rows6) fun r_2 =>
  if r_2 = 0 then
    some ((-2), thrown6_1, weightAbove6, weightBelow6)
  else
    Option.bind (f_X6_within i2 0 3) fun r_5 =>
    if r_5 = 0 then
      some ((-2), thrown6_1, weightAbove6, weightBelow6)
    else
      Option.bind (f_X6_within i3 0 1) fun r_8 =>
      if r_8 = 0 then
        some ((-2), thrown6_1, weightAbove6, weightBelow6)
      else
        Option.bind (f_X6_weighRow i1 i2 rows6 labels6 guesses6 sizes6 words6 up6 down6 weightAbove6 weightBelow6) fun (weightAbove6_11, weightBelow6_12) =>
        Option.bind (f_X6_side weightAbove6_11 weightBelow6_12 i3) fun rj_14 =>
        some (rj_14, thrown6_1, weightAbove6_11, weightBelow6_12)
set_option maxHeartbeats 4000000 in
set_option maxRecDepth 100000 in
theorem c_X6_weight (l : Launch) (D : va_G) (cI cJ : ClassId) (h6 labels6a guesses6a comes6a sizes6a words6a told6a behind6a shares6a start6a move6a show6a signs6a many6a bestPath6a nextStart6a nextMove6a nextShow6a : Nat) (thrown6 : Int32) (rows6 : Int32) (labels6 : Nat → Int32) (guesses6 : Nat → Int32) (comes6 : Nat → Int32) (sizes6 : Nat → Int32) (words6 : Nat → Int32) (up6 : Int32) (down6 : Int32) (weightAbove6 : Int64) (weightBelow6 : Int64) (told6 : Nat → Int32) (length6 : Int32) (behind6 : Nat → Int32) (shares6 : Nat → Int64) (over6 : Int64) (start6 : Nat → Int32) (move6 : Nat → Int32) (show6 : Nat → Int32) (signs6 : Nat → Int32) (many6 : Nat → Int32) (bestPath6 : Nat → Int32) (nextStart6 : Nat → Int32) (nextMove6 : Nat → Int32) (nextShow6 : Nat → Int32) (i1 : Int32) (i2 : Int32) (i3 : Int32) (ret9 : Int64) (thrown6z : Int32) (weightAbove6z : Int64) (weightBelow6z : Int64) (h : f_X6_weight i1 i2 i3 thrown6 rows6 labels6 guesses6 sizes6 words6 up6 down6 weightAbove6 weightBelow6 = some (ret9, thrown6z, weightAbove6z, weightBelow6z)) : CL l D cI cJ yX6_weight wsX6_weight 4 93 [.ref h6, .int i1, .int i2, .int i3] (w6 cI cJ h6 labels6a guesses6a comes6a sizes6a words6a told6a behind6a shares6a start6a move6a show6a signs6a many6a bestPath6a nextStart6a nextMove6a nextShow6a thrown6 rows6 labels6 guesses6 comes6 sizes6 words6 up6 down6 weightAbove6 weightBelow6 told6 length6 behind6 shares6 over6 start6 move6 show6 signs6 many6 bestPath6 nextStart6 nextMove6 nextShow6) (w6 cI cJ h6 labels6a guesses6a comes6a sizes6a words6a told6a behind6a shares6a start6a move6a show6a signs6a many6a bestPath6a nextStart6a nextMove6a nextShow6a thrown6z rows6 labels6 guesses6 comes6 sizes6 words6 up6 down6 weightAbove6z weightBelow6z told6 length6 behind6 shares6 over6 start6 move6 show6 signs6 many6 bestPath6 nextStart6 nextMove6 nextShow6) ret9 := by
  refine entL (cc := cX6_weight) (maxL := 4) (by decide) rfl (Nat.le_of_ble_eq_true rfl) ?_
  intro p e s m args below meth c ls A Q X hret
  obtain ⟨hx, hb, hml, hts, hown, hK, hA, hP, hD, hS, hl, hnm⟩ := X
  have hown : s.vm.findClass RX6 = some m.cls := hown
  have hl : lv_has ls 4 [(0, .ref h6), (1, .int i1), (2, .int i2), (3, .int i3)] := hl
  have hw1 : (Cond.fieldLink RX6 69 "CountLearnersModel" "thrown" "I").before args s = true := hts _ (by decide +kernel)
  have hinX6 : ∀ w ∈ wsX60, w ∈ wsX6_weight := by decide +kernel
  have hw3 : (Cond.constantLong RX6 106 (-2)).before args s = true := hts _ (by decide +kernel)
  have hw4 : (Cond.fieldLink RX6 120 "CountLearnersModel" "weightAbove" "J").before args s = true := hts _ (by decide +kernel)
  have hw5 : (Cond.fieldLink RX6 124 "CountLearnersModel" "weightBelow" "J").before args s = true := hts _ (by decide +kernel)
  unfold f_X6_weight at h
  refine lv_aload_n hx hb dX6_weight_0 rfl (lv_at hl 0 rfl) ?_
  refine lv_iconst (v := 0) hx hb dX6_weight_1 (by decide) ?_
  refine lv_topi (fun thrown6_1 ethrown6_1 => ?_)
  have h := nm_s h thrown6_1 ethrown6_1
  refine va_put (D := D) (ci := 5) (v := .int thrown6_1) (ty := .int) (C := RX6) (T := TX6) (N := 25) hx hb hts hinX6 tyX6 tyX6_ok nmX6 hown hK.1 hP hD hS 0 rfl rfl 0 (by decide) hw1 (fun _ h9 => h9) rfl (by decide +kernel) rfl rfl (Nat.le_of_ble_eq_true rfl) dX6_weight_2 (fun H locs hP hD hS => ?_)
  have hP : va_P D vwK (w6 cI cJ h6 labels6a guesses6a comes6a sizes6a words6a told6a behind6a shares6a start6a move6a show6a signs6a many6a bestPath6a nextStart6a nextMove6a nextShow6a thrown6_1 rows6 labels6 guesses6 comes6 sizes6 words6 up6 down6 weightAbove6 weightBelow6 told6 length6 behind6 shares6 over6 start6 move6 show6 signs6 many6 bestPath6 nextStart6 nextMove6 nextShow6) H := hP
  have hD : va_D A (w6 cI cJ h6 labels6a guesses6a comes6a sizes6a words6a told6a behind6a shares6a start6a move6a show6a signs6a many6a bestPath6a nextStart6a nextMove6a nextShow6a thrown6_1 rows6 labels6 guesses6 comes6 sizes6 words6 up6 down6 weightAbove6 weightBelow6 told6 length6 behind6 shares6 over6 start6 move6 show6 signs6 many6 bestPath6 nextStart6 nextMove6 nextShow6) := hD
  refine lv_aload_n hx hb dX6_weight_5 rfl (lv_at hl 0 rfl) ?_
  refine lv_iload_n hx hb dX6_weight_6 rfl (lv_at hl 1 rfl) ?_
  obtain ⟨r_2, hc_3, h⟩ := bd_s h
  refine callTi (As := [.int i1]) (rest := []) ⟨hx, hb, hml, hown, hts⟩ (c_X6_isRow l D cI cJ h6 labels6a guesses6a comes6a sizes6a words6a told6a behind6a shares6a start6a move6a show6a signs6a many6a bestPath6a nextStart6a nextMove6a nextShow6a thrown6_1 rows6 labels6 guesses6 comes6 sizes6 words6 up6 down6 weightAbove6 weightBelow6 told6 length6 behind6 shares6 over6 start6 move6 show6 signs6 many6 bestPath6 nextStart6 nextMove6 nextShow6 i1 r_2 hc_3) (cwV 1 hts gX6_weight_X6_isRow rfl rfl rfl (by decide +kernel) ⟨Nat.le_of_ble_eq_true rfl, Nat.le_of_ble_eq_true rfl⟩) hK hP hD hS hA 0 5 rfl rfl rfl rfl hl.1 rfl (Nat.le_of_ble_eq_true rfl) dX6_weight_7 ⟨Nat.zero_le _, Nat.zero_le _⟩ (fun H locs hP hD hS => ?_)
  refine lv_if_eq (tgt := 31) hx hb dX6_weight_10 (by decide) (fun c_4 => ?_) (fun c_4 => ?_)
  · have h := it_p c_4 h
    refine lv_ldc2 (v := (-2)) hx hb hown hw3 dX6_weight_31 ?_
    cases h
    exact hret _ _ _ _ hP hD hS dX6_weight_34
  · have h := it_n c_4 h
    refine lv_iload_n hx hb dX6_weight_13 rfl (lv_at hl 2 rfl) ?_
    refine lv_iconst (v := 0) hx hb dX6_weight_14 (by decide) ?_
    refine lv_iconst (v := 3) hx hb dX6_weight_15 (by decide) ?_
    obtain ⟨r_5, hc_6, h⟩ := bd_s h
    refine callPi (As := [.int i2, .int 0, .int 3]) (rest := []) ⟨hx, hb, hml, hown, hts⟩ (c_X6_within l D cI cJ i2 0 3 r_5 hc_6) (va_cwS 3 hts gX6_weight_X6_within rfl rfl rfl (by decide +kernel) ⟨Nat.le_of_ble_eq_true rfl, Nat.le_of_ble_eq_true rfl⟩) hK hP hD hS hA rfl hl.1 rfl (Nat.le_of_ble_eq_true rfl) dX6_weight_16 ⟨Nat.zero_le _, Nat.zero_le _⟩ (fun H locs hP hD hS => ?_)
    refine lv_if_eq (tgt := 31) hx hb dX6_weight_19 (by decide) (fun c_7 => ?_) (fun c_7 => ?_)
    · have h := it_p c_7 h
      refine lv_ldc2 (v := (-2)) hx hb hown hw3 dX6_weight_31 ?_
      cases h
      exact hret _ _ _ _ hP hD hS dX6_weight_34
    · have h := it_n c_7 h
      refine lv_iload_n hx hb dX6_weight_22 rfl (lv_at hl 3 rfl) ?_
      refine lv_iconst (v := 0) hx hb dX6_weight_23 (by decide) ?_
      refine lv_iconst (v := 1) hx hb dX6_weight_24 (by decide) ?_
      obtain ⟨r_8, hc_9, h⟩ := bd_s h
      refine callPi (As := [.int i3, .int 0, .int 1]) (rest := []) ⟨hx, hb, hml, hown, hts⟩ (c_X6_within l D cI cJ i3 0 1 r_8 hc_9) (va_cwS 3 hts gX6_weight_X6_within rfl rfl rfl (by decide +kernel) ⟨Nat.le_of_ble_eq_true rfl, Nat.le_of_ble_eq_true rfl⟩) hK hP hD hS hA rfl hl.1 rfl (Nat.le_of_ble_eq_true rfl) dX6_weight_25 ⟨Nat.zero_le _, Nat.zero_le _⟩ (fun H locs hP hD hS => ?_)
      refine lv_if_ne (tgt := 35) hx hb dX6_weight_28 (by decide) (fun c_10 => ?_) (fun c_10 => ?_)
      · have h := it_n c_10 h
        refine lv_aload_n hx hb dX6_weight_35 rfl (lv_at hl 0 rfl) ?_
        refine lv_iload_n hx hb dX6_weight_36 rfl (lv_at hl 1 rfl) ?_
        refine lv_iload_n hx hb dX6_weight_37 rfl (lv_at hl 2 rfl) ?_
        obtain ⟨⟨weightAbove6_11, weightBelow6_12⟩, hc_13, h⟩ := bd_s h
        refine callTv (As := [.int i1, .int i2]) (rest := []) ⟨hx, hb, hml, hown, hts⟩ (c_X6_weighRow l D cI cJ h6 labels6a guesses6a comes6a sizes6a words6a told6a behind6a shares6a start6a move6a show6a signs6a many6a bestPath6a nextStart6a nextMove6a nextShow6a thrown6_1 rows6 labels6 guesses6 comes6 sizes6 words6 up6 down6 weightAbove6 weightBelow6 told6 length6 behind6 shares6 over6 start6 move6 show6 signs6 many6 bestPath6 nextStart6 nextMove6 nextShow6 i1 i2 weightAbove6_11 weightBelow6_12 hc_13) (cwV 2 hts gX6_weight_X6_weighRow rfl rfl rfl (by decide +kernel) ⟨Nat.le_of_ble_eq_true rfl, Nat.le_of_ble_eq_true rfl⟩) hK hP hD hS hA 0 5 rfl rfl rfl rfl hl.1 rfl (Nat.le_of_ble_eq_true rfl) dX6_weight_38 ⟨Nat.zero_le _, Nat.zero_le _⟩ (fun H locs hP hD hS => ?_)
        refine lv_aload_n hx hb dX6_weight_41 rfl (lv_at hl 0 rfl) ?_
        refine va_get (D := D) (ci := 5) (v := .long weightAbove6_11) (C := RX6) (T := TX6) (N := 25) hx hb hts hinX6 hown hK.1 hP 0 rfl rfl 9 (by decide) hw4 (fun _ h9 => h9) rfl dX6_weight_42 ?_
        refine lv_aload_n hx hb dX6_weight_45 rfl (lv_at hl 0 rfl) ?_
        refine va_get (D := D) (ci := 5) (v := .long weightBelow6_12) (C := RX6) (T := TX6) (N := 25) hx hb hts hinX6 hown hK.1 hP 0 rfl rfl 10 (by decide) hw5 (fun _ h9 => h9) rfl dX6_weight_46 ?_
        refine lv_iload_n hx hb dX6_weight_49 rfl (lv_at hl 3 rfl) ?_
        obtain ⟨rj_14, hc_15, h⟩ := bd_s h
        refine callPl (As := [.long weightAbove6_11, .long weightBelow6_12, .int i3]) (rest := []) ⟨hx, hb, hml, hown, hts⟩ (c_X6_side l D cI cJ weightAbove6_11 weightBelow6_12 i3 rj_14 hc_15) (va_cwS 3 hts gX6_weight_X6_side rfl rfl rfl (by decide +kernel) ⟨Nat.le_of_ble_eq_true rfl, Nat.le_of_ble_eq_true rfl⟩) hK hP hD hS hA rfl hl.1 rfl (Nat.le_of_ble_eq_true rfl) dX6_weight_50 ⟨Nat.zero_le _, Nat.zero_le _⟩ (fun H locs hP hD hS => ?_)
        cases h
        exact hret _ _ _ _ hP hD hS dX6_weight_53
      · have h := it_p c_10 h
        refine lv_ldc2 (v := (-2)) hx hb hown hw3 dX6_weight_31 ?_
        cases h
        exact hret _ _ _ _ hP hD hS dX6_weight_34
def f_X6_bestOf_L10 (i1 : Int32) (rows6 : Int32) (labels6 : Nat → Int32) (guesses6 : Nat → Int32) (sizes6 : Nat → Int32) (words6 : Nat → Int32) (up6 : Int32) (down6 : Int32) : Nat → Int32 → Int64 → Int64 → Int32 → Int64 → Int64 → Option (Int32 × Int64 × Int64 × Int32 × Int64 × Int64)
  | 0, _, _, _, _, _, _ => none
  | n + 1, y7_5, k5_6, k3_7, y2_8, weightAbove6_9, weightBelow6_10 =>
  if 4 ≤ y7_5 then
    some (y7_5, k5_6, k3_7, y2_8, weightAbove6_9, weightBelow6_10)
  else
    Option.bind (f_X6_weighRow i1 y7_5 rows6 labels6 guesses6 sizes6 words6 up6 down6 weightAbove6_9 weightBelow6_10) fun (weightAbove6_18, weightBelow6_19) =>
    Option.bind (f_X6_isAbove weightAbove6_18 weightBelow6_19 k3_7 k5_6) fun r_21 =>
    if r_21 = 0 then
      nm (α := Int32) (y7_5 + 1) fun x7_24 =>
      f_X6_bestOf_L10 i1 rows6 labels6 guesses6 sizes6 words6 up6 down6 n x7_24 k5_6 k3_7 y2_8 weightAbove6_18 weightBelow6_19
    else
      nm (α := Int32) (y7_5) fun x2_25 =>
      nm (α := Int64) (weightAbove6_18) fun j3_26 =>
      nm (α := Int64) (weightBelow6_19) fun j5_27 =>
      nm (α := Int32) (y7_5 + 1) fun x7_28 =>
      f_X6_bestOf_L10 i1 rows6 labels6 guesses6 sizes6 words6 up6 down6 n x7_28 j5_27 j3_26 x2_25 weightAbove6_18 weightBelow6_19
def f_X6_bestOf (i1 : Int32) (rows6 : Int32) (labels6 : Nat → Int32) (guesses6 : Nat → Int32) (sizes6 : Nat → Int32) (words6 : Nat → Int32) (up6 : Int32) (down6 : Int32) (weightAbove6 : Int64) (weightBelow6 : Int64) : Option (Int32 × Int64 × Int64) :=
  nm (α := Int32) ((-1)) fun x2_1 =>
  nm (α := Int64) (0) fun j3_2 =>
  nm (α := Int64) (1) fun j5_3 =>
  nm (α := Int32) (0) fun x7_4 =>
  Option.bind (f_X6_bestOf_L10 i1 rows6 labels6 guesses6 sizes6 words6 up6 down6 FU x7_4 j5_3 j3_2 x2_1 weightAbove6 weightBelow6) fun (z7_29, z5_30, z3_31, z2_32, weightAbove6_33, weightBelow6_34) =>
  some (z2_32, weightAbove6_33, weightBelow6_34)
set_option maxHeartbeats 4000000 in
set_option maxRecDepth 100000 in
theorem c_X6_bestOf (l : Launch) (D : va_G) (cI cJ : ClassId) (h6 labels6a guesses6a comes6a sizes6a words6a told6a behind6a shares6a start6a move6a show6a signs6a many6a bestPath6a nextStart6a nextMove6a nextShow6a : Nat) (thrown6 : Int32) (rows6 : Int32) (labels6 : Nat → Int32) (guesses6 : Nat → Int32) (comes6 : Nat → Int32) (sizes6 : Nat → Int32) (words6 : Nat → Int32) (up6 : Int32) (down6 : Int32) (weightAbove6 : Int64) (weightBelow6 : Int64) (told6 : Nat → Int32) (length6 : Int32) (behind6 : Nat → Int32) (shares6 : Nat → Int64) (over6 : Int64) (start6 : Nat → Int32) (move6 : Nat → Int32) (show6 : Nat → Int32) (signs6 : Nat → Int32) (many6 : Nat → Int32) (bestPath6 : Nat → Int32) (nextStart6 : Nat → Int32) (nextMove6 : Nat → Int32) (nextShow6 : Nat → Int32) (i1 : Int32) (ret9 : Int32) (weightAbove6z : Int64) (weightBelow6z : Int64) (h : f_X6_bestOf i1 rows6 labels6 guesses6 sizes6 words6 up6 down6 weightAbove6 weightBelow6 = some (ret9, weightAbove6z, weightBelow6z)) : CI l D cI cJ yX6_bestOf wsX6_bestOf 4 93 [.ref h6, .int i1] (w6 cI cJ h6 labels6a guesses6a comes6a sizes6a words6a told6a behind6a shares6a start6a move6a show6a signs6a many6a bestPath6a nextStart6a nextMove6a nextShow6a thrown6 rows6 labels6 guesses6 comes6 sizes6 words6 up6 down6 weightAbove6 weightBelow6 told6 length6 behind6 shares6 over6 start6 move6 show6 signs6 many6 bestPath6 nextStart6 nextMove6 nextShow6) (w6 cI cJ h6 labels6a guesses6a comes6a sizes6a words6a told6a behind6a shares6a start6a move6a show6a signs6a many6a bestPath6a nextStart6a nextMove6a nextShow6a thrown6 rows6 labels6 guesses6 comes6 sizes6 words6 up6 down6 weightAbove6z weightBelow6z told6 length6 behind6 shares6 over6 start6 move6 show6 signs6 many6 bestPath6 nextStart6 nextMove6 nextShow6) ret9 := by
  refine entI (cc := cX6_bestOf) (maxL := 8) (by decide) rfl (Nat.le_of_ble_eq_true rfl) ?_
  intro p e s m args below meth c ls A Q X hret
  obtain ⟨hx, hb, hml, hts, hown, hK, hA, hP, hD, hS, hl, hnm⟩ := X
  have hown : s.vm.findClass RX6 = some m.cls := hown
  have hl : lv_has ls 8 [(0, .ref h6), (1, .int i1)] := hl
  have hw1 : (Cond.fieldLink RX6 120 "CountLearnersModel" "weightAbove" "J").before args s = true := hts _ (by decide +kernel)
  have hinX6 : ∀ w ∈ wsX60, w ∈ wsX6_bestOf := by decide +kernel
  have hw3 : (Cond.fieldLink RX6 124 "CountLearnersModel" "weightBelow" "J").before args s = true := hts _ (by decide +kernel)
  unfold f_X6_bestOf at h
  refine lv_iconst (v := (-1)) hx hb dX6_bestOf_0 (by decide) ?_
  refine lv_topi (fun x2_1 ex2_1 => ?_)
  have h := nm_s h x2_1 ex2_1
  refine lv_istore_n (lv' := [(2, .int x2_1), (0, .ref h6), (1, .int i1)]) hx hb dX6_bestOf_1 rfl hl (by decide) rfl (fun ls hl => ?_)
  refine lv_lconst (v := 0) hx hb dX6_bestOf_2 (by decide) ?_
  refine lv_topl (fun j3_2 ej3_2 => ?_)
  have h := nm_s h j3_2 ej3_2
  refine lv_lstore_n (lv' := [(3, .long j3_2), (2, .int x2_1), (0, .ref h6), (1, .int i1)]) hx hb dX6_bestOf_3 rfl hl (by decide) rfl (fun ls hl => ?_)
  refine lv_lconst (v := 1) hx hb dX6_bestOf_4 (by decide) ?_
  refine lv_topl (fun j5_3 ej5_3 => ?_)
  have h := nm_s h j5_3 ej5_3
  refine lv_lstore (lv' := [(5, .long j5_3), (3, .long j3_2), (2, .int x2_1), (0, .ref h6), (1, .int i1)]) hx hb dX6_bestOf_5 hl (by decide) rfl (fun ls hl => ?_)
  refine lv_iconst (v := 0) hx hb dX6_bestOf_7 (by decide) ?_
  refine lv_topi (fun x7_4 ex7_4 => ?_)
  have h := nm_s h x7_4 ex7_4
  refine lv_istore (lv' := [(7, .int x7_4), (5, .long j5_3), (3, .long j3_2), (2, .int x2_1), (0, .ref h6), (1, .int i1)]) hx hb dX6_bestOf_8 hl (by decide) rfl (fun ls hl => ?_)
  have L10 : ∀ (n : Nat) (y7_5 : Int32) (k5_6 : Int64) (k3_7 : Int64) (y2_8 : Int32) (weightAbove6_9 : Int64) (weightBelow6_10 : Int64) (z7_11 : Int32) (z5_12 : Int64) (z3_13 : Int64) (z2_14 : Int32) (weightAbove6_15 : Int64) (weightBelow6_16 : Int64), f_X6_bestOf_L10 i1 rows6 labels6 guesses6 sizes6 words6 up6 down6 n y7_5 k5_6 k3_7 y2_8 weightAbove6_9 weightBelow6_10 = some (z7_11, z5_12, z3_13, z2_14, weightAbove6_15, weightBelow6_16) → ∀ (H : Heap) (locs : List Loc) (ls : Array Slot), va_P D vwK (w6 cI cJ h6 labels6a guesses6a comes6a sizes6a words6a told6a behind6a shares6a start6a move6a show6a signs6a many6a bestPath6a nextStart6a nextMove6a nextShow6a thrown6 rows6 labels6 guesses6 comes6 sizes6 words6 up6 down6 weightAbove6_9 weightBelow6_10 told6 length6 behind6 shares6 over6 start6 move6 show6 signs6 many6 bestPath6 nextStart6 nextMove6 nextShow6) H → va_D A (w6 cI cJ h6 labels6a guesses6a comes6a sizes6a words6a told6a behind6a shares6a start6a move6a show6a signs6a many6a bestPath6a nextStart6a nextMove6a nextShow6a thrown6 rows6 labels6 guesses6 comes6 sizes6 words6 up6 down6 weightAbove6_9 weightBelow6_10 told6 length6 behind6 shares6 over6 start6 move6 show6 signs6 many6 bestPath6 nextStart6 nextMove6 nextShow6) → va_S A s.heap H locs → lv_has ls 8 [(7, .int y7_5), (5, .long k5_6), (3, .long k3_7), (2, .int y2_8), (0, .ref h6), (1, .int i1)] → (∀ (H : Heap) (locs : List Loc) (ls : Array Slot), va_P D vwK (w6 cI cJ h6 labels6a guesses6a comes6a sizes6a words6a told6a behind6a shares6a start6a move6a show6a signs6a many6a bestPath6a nextStart6a nextMove6a nextShow6a thrown6 rows6 labels6 guesses6 comes6 sizes6 words6 up6 down6 weightAbove6_15 weightBelow6_16 told6 length6 behind6 shares6 over6 start6 move6 show6 signs6 many6 bestPath6 nextStart6 nextMove6 nextShow6) H → va_D A (w6 cI cJ h6 labels6a guesses6a comes6a sizes6a words6a told6a behind6a shares6a start6a move6a show6a signs6a many6a bestPath6a nextStart6a nextMove6a nextShow6a thrown6 rows6 labels6 guesses6 comes6 sizes6 words6 up6 down6 weightAbove6_15 weightBelow6_16 told6 length6 behind6 shares6 over6 start6 move6 show6 signs6 many6 bestPath6 nextStart6 nextMove6 nextShow6) → va_S A s.heap H locs → lv_has ls 8 [(2, .int z2_14)] → W p l e (rmOf 4 93) s m args below meth c H locs 0 0 Q (F0 m 60 ls [])) → W p l e (rmOf 4 93) s m args below meth c H locs 0 0 Q (F0 m 10 ls []) := by
    intro n
    induction n with
    | zero => intro y7_5 k5_6 k3_7 y2_8 weightAbove6_9 weightBelow6_10 z7_11 z5_12 z3_13 z2_14 weightAbove6_15 weightBelow6_16 h; rw [f_X6_bestOf_L10.eq_1] at h; cases h
    | succ n ih =>
      intro y7_5 k5_6 k3_7 y2_8 weightAbove6_9 weightBelow6_10 z7_11 z5_12 z3_13 z2_14 weightAbove6_15 weightBelow6_16 h H locs ls hP hD hS hl K
      rw [f_X6_bestOf_L10.eq_2] at h
      refine lv_iload hx hb dX6_bestOf_10 (lv_at hl 0 rfl) ?_
      refine lv_iconst (v := 4) hx hb dX6_bestOf_12 (by decide) ?_
      refine lv_icmp_ge (tgt := 60) hx hb dX6_bestOf_13 (by decide) (fun c_17 => ?_) (fun c_17 => ?_)
      · have h := it_p c_17 h
        cases h
        exact K _ _ _ hP hD hS (lv_sub hl [3] rfl)
      · have h := it_n c_17 h
        refine lv_aload_n hx hb dX6_bestOf_16 rfl (lv_at hl 4 rfl) ?_
        refine lv_iload_n hx hb dX6_bestOf_17 rfl (lv_at hl 5 rfl) ?_
        refine lv_iload hx hb dX6_bestOf_18 (lv_at hl 0 rfl) ?_
        obtain ⟨⟨weightAbove6_18, weightBelow6_19⟩, hc_20, h⟩ := bd_s h
        refine callTv (As := [.int i1, .int y7_5]) (rest := []) ⟨hx, hb, hml, hown, hts⟩ (c_X6_weighRow l D cI cJ h6 labels6a guesses6a comes6a sizes6a words6a told6a behind6a shares6a start6a move6a show6a signs6a many6a bestPath6a nextStart6a nextMove6a nextShow6a thrown6 rows6 labels6 guesses6 comes6 sizes6 words6 up6 down6 weightAbove6_9 weightBelow6_10 told6 length6 behind6 shares6 over6 start6 move6 show6 signs6 many6 bestPath6 nextStart6 nextMove6 nextShow6 i1 y7_5 weightAbove6_18 weightBelow6_19 hc_20) (cwV 2 hts gX6_bestOf_X6_weighRow rfl rfl rfl (by decide +kernel) ⟨Nat.le_of_ble_eq_true rfl, Nat.le_of_ble_eq_true rfl⟩) hK hP hD hS hA 0 5 rfl rfl rfl rfl hl.1 rfl (Nat.le_of_ble_eq_true rfl) dX6_bestOf_20 ⟨Nat.zero_le _, Nat.zero_le _⟩ (fun H locs hP hD hS => ?_)
        refine lv_aload_n hx hb dX6_bestOf_23 rfl (lv_at hl 4 rfl) ?_
        refine va_get (D := D) (ci := 5) (v := .long weightAbove6_18) (C := RX6) (T := TX6) (N := 25) hx hb hts hinX6 hown hK.1 hP 0 rfl rfl 9 (by decide) hw1 (fun _ h9 => h9) rfl dX6_bestOf_24 ?_
        refine lv_aload_n hx hb dX6_bestOf_27 rfl (lv_at hl 4 rfl) ?_
        refine va_get (D := D) (ci := 5) (v := .long weightBelow6_19) (C := RX6) (T := TX6) (N := 25) hx hb hts hinX6 hown hK.1 hP 0 rfl rfl 10 (by decide) hw3 (fun _ h9 => h9) rfl dX6_bestOf_28 ?_
        refine lv_lload_n hx hb dX6_bestOf_31 rfl (lv_at hl 2 rfl) ?_
        refine lv_lload hx hb dX6_bestOf_32 (lv_at hl 1 rfl) ?_
        obtain ⟨r_21, hc_22, h⟩ := bd_s h
        refine callPi (As := [.long weightAbove6_18, .long weightBelow6_19, .long k3_7, .long k5_6]) (rest := []) ⟨hx, hb, hml, hown, hts⟩ (c_X6_isAbove l D cI cJ weightAbove6_18 weightBelow6_19 k3_7 k5_6 r_21 hc_22) (va_cwS 4 hts gX6_bestOf_X6_isAbove rfl rfl rfl (by decide +kernel) ⟨Nat.le_of_ble_eq_true rfl, Nat.le_of_ble_eq_true rfl⟩) hK hP hD hS hA rfl hl.1 rfl (Nat.le_of_ble_eq_true rfl) dX6_bestOf_34 ⟨Nat.zero_le _, Nat.zero_le _⟩ (fun H locs hP hD hS => ?_)
        refine lv_if_eq (tgt := 54) hx hb dX6_bestOf_37 (by decide) (fun c_23 => ?_) (fun c_23 => ?_)
        · have h := it_p c_23 h
          obtain ⟨x7_24, ex7_24⟩ : ∃ z : Int32, z = y7_5 + 1 := ⟨_, rfl⟩
          have h := nm_s h x7_24 ex7_24
          refine lv_iinc (v := x7_24) (lv' := [(7, .int x7_24), (5, .long k5_6), (3, .long k3_7), (2, .int y2_8), (0, .ref h6), (1, .int i1)]) hx hb dX6_bestOf_54 hl (k := 0) rfl (by rw [ex7_24]; rfl) (by decide) rfl (fun ls hl => ?_)
          refine lv_goto (tgt := 10) hx hb dX6_bestOf_57 (by decide) ?_
          exact ih _ _ _ _ _ _ _ _ _ _ _ _ h _ _ _ hP hD hS (lv_sub hl [0, 1, 2, 3, 4, 5] rfl) K
        · have h := it_n c_23 h
          refine lv_iload hx hb dX6_bestOf_40 (lv_at hl 0 rfl) ?_
          refine lv_topi (fun x2_25 ex2_25 => ?_)
          have h := nm_s h x2_25 ex2_25
          refine lv_istore_n (lv' := [(2, .int x2_25), (7, .int y7_5), (5, .long k5_6), (3, .long k3_7), (0, .ref h6), (1, .int i1)]) hx hb dX6_bestOf_42 rfl hl (by decide) rfl (fun ls hl => ?_)
          refine lv_aload_n hx hb dX6_bestOf_43 rfl (lv_at hl 4 rfl) ?_
          refine va_get (D := D) (ci := 5) (v := .long weightAbove6_18) (C := RX6) (T := TX6) (N := 25) hx hb hts hinX6 hown hK.1 hP 0 rfl rfl 9 (by decide) hw1 (fun _ h9 => h9) rfl dX6_bestOf_44 ?_
          refine lv_topl (fun j3_26 ej3_26 => ?_)
          have h := nm_s h j3_26 ej3_26
          refine lv_lstore_n (lv' := [(3, .long j3_26), (2, .int x2_25), (7, .int y7_5), (5, .long k5_6), (0, .ref h6), (1, .int i1)]) hx hb dX6_bestOf_47 rfl hl (by decide) rfl (fun ls hl => ?_)
          refine lv_aload_n hx hb dX6_bestOf_48 rfl (lv_at hl 4 rfl) ?_
          refine va_get (D := D) (ci := 5) (v := .long weightBelow6_19) (C := RX6) (T := TX6) (N := 25) hx hb hts hinX6 hown hK.1 hP 0 rfl rfl 10 (by decide) hw3 (fun _ h9 => h9) rfl dX6_bestOf_49 ?_
          refine lv_topl (fun j5_27 ej5_27 => ?_)
          have h := nm_s h j5_27 ej5_27
          refine lv_lstore (lv' := [(5, .long j5_27), (3, .long j3_26), (2, .int x2_25), (7, .int y7_5), (0, .ref h6), (1, .int i1)]) hx hb dX6_bestOf_52 hl (by decide) rfl (fun ls hl => ?_)
          obtain ⟨x7_28, ex7_28⟩ : ∃ z : Int32, z = y7_5 + 1 := ⟨_, rfl⟩
          have h := nm_s h x7_28 ex7_28
          refine lv_iinc (v := x7_28) (lv' := [(7, .int x7_28), (5, .long j5_27), (3, .long j3_26), (2, .int x2_25), (0, .ref h6), (1, .int i1)]) hx hb dX6_bestOf_54 hl (k := 3) rfl (by rw [ex7_28]; rfl) (by decide) rfl (fun ls hl => ?_)
          refine lv_goto (tgt := 10) hx hb dX6_bestOf_57 (by decide) ?_
          exact ih _ _ _ _ _ _ _ _ _ _ _ _ h _ _ _ hP hD hS (lv_sub hl [0, 1, 2, 3, 4, 5] rfl) K
  obtain ⟨⟨z7_29, z5_30, z3_31, z2_32, weightAbove6_33, weightBelow6_34⟩, hl_35, h⟩ := bd_s h
  refine L10 FU x7_4 j5_3 j3_2 x2_1 weightAbove6 weightBelow6 _ _ _ _ _ _ hl_35 _ _ _ hP hD hS (lv_sub hl [0, 1, 2, 3, 4, 5] rfl) (fun H locs ls hP hD hS hl => ?_)
  refine lv_iload_n hx hb dX6_bestOf_60 rfl (lv_at hl 0 rfl) ?_
  cases h
  exact hret _ _ _ _ hP hD hS dX6_bestOf_61
def f_X6_best (i1 : Int32) (thrown6 : Int32) (rows6 : Int32) (labels6 : Nat → Int32) (guesses6 : Nat → Int32) (sizes6 : Nat → Int32) (words6 : Nat → Int32) (up6 : Int32) (down6 : Int32) (weightAbove6 : Int64) (weightBelow6 : Int64) : Option (Int32 × Int32 × Int64 × Int64) :=
  nm (α := Int32) (0) fun thrown6_1 =>
  Option.bind (f_X6_isRow i1 rows6) fun r_2 =>
  if r_2 = 0 then
    some ((-2), thrown6_1, weightAbove6, weightBelow6)
  else
    Option.bind (f_X6_bestOf i1 rows6 labels6 guesses6 sizes6 words6 up6 down6 weightAbove6 weightBelow6) fun (r_5, weightAbove6_6, weightBelow6_7) =>
    some (r_5, thrown6_1, weightAbove6_6, weightBelow6_7)
set_option maxHeartbeats 4000000 in
set_option maxRecDepth 100000 in
theorem c_X6_best (l : Launch) (D : va_G) (cI cJ : ClassId) (h6 labels6a guesses6a comes6a sizes6a words6a told6a behind6a shares6a start6a move6a show6a signs6a many6a bestPath6a nextStart6a nextMove6a nextShow6a : Nat) (thrown6 : Int32) (rows6 : Int32) (labels6 : Nat → Int32) (guesses6 : Nat → Int32) (comes6 : Nat → Int32) (sizes6 : Nat → Int32) (words6 : Nat → Int32) (up6 : Int32) (down6 : Int32) (weightAbove6 : Int64) (weightBelow6 : Int64) (told6 : Nat → Int32) (length6 : Int32) (behind6 : Nat → Int32) (shares6 : Nat → Int64) (over6 : Int64) (start6 : Nat → Int32) (move6 : Nat → Int32) (show6 : Nat → Int32) (signs6 : Nat → Int32) (many6 : Nat → Int32) (bestPath6 : Nat → Int32) (nextStart6 : Nat → Int32) (nextMove6 : Nat → Int32) (nextShow6 : Nat → Int32) (i1 : Int32) (ret9 : Int32) (thrown6z : Int32) (weightAbove6z : Int64) (weightBelow6z : Int64) (h : f_X6_best i1 thrown6 rows6 labels6 guesses6 sizes6 words6 up6 down6 weightAbove6 weightBelow6 = some (ret9, thrown6z, weightAbove6z, weightBelow6z)) : CI l D cI cJ yX6_best wsX6_best 5 120 [.ref h6, .int i1] (w6 cI cJ h6 labels6a guesses6a comes6a sizes6a words6a told6a behind6a shares6a start6a move6a show6a signs6a many6a bestPath6a nextStart6a nextMove6a nextShow6a thrown6 rows6 labels6 guesses6 comes6 sizes6 words6 up6 down6 weightAbove6 weightBelow6 told6 length6 behind6 shares6 over6 start6 move6 show6 signs6 many6 bestPath6 nextStart6 nextMove6 nextShow6) (w6 cI cJ h6 labels6a guesses6a comes6a sizes6a words6a told6a behind6a shares6a start6a move6a show6a signs6a many6a bestPath6a nextStart6a nextMove6a nextShow6a thrown6z rows6 labels6 guesses6 comes6 sizes6 words6 up6 down6 weightAbove6z weightBelow6z told6 length6 behind6 shares6 over6 start6 move6 show6 signs6 many6 bestPath6 nextStart6 nextMove6 nextShow6) ret9 := by
  refine entI (cc := cX6_best) (maxL := 2) (by decide) rfl (Nat.le_of_ble_eq_true rfl) ?_
  intro p e s m args below meth c ls A Q X hret
  obtain ⟨hx, hb, hml, hts, hown, hK, hA, hP, hD, hS, hl, hnm⟩ := X
  have hown : s.vm.findClass RX6 = some m.cls := hown
  have hl : lv_has ls 2 [(0, .ref h6), (1, .int i1)] := hl
  have hw1 : (Cond.fieldLink RX6 69 "CountLearnersModel" "thrown" "I").before args s = true := hts _ (by decide +kernel)
  have hinX6 : ∀ w ∈ wsX60, w ∈ wsX6_best := by decide +kernel
  unfold f_X6_best at h
  refine lv_aload_n hx hb dX6_best_0 rfl (lv_at hl 0 rfl) ?_
  refine lv_iconst (v := 0) hx hb dX6_best_1 (by decide) ?_
  refine lv_topi (fun thrown6_1 ethrown6_1 => ?_)
  have h := nm_s h thrown6_1 ethrown6_1
  refine va_put (D := D) (ci := 5) (v := .int thrown6_1) (ty := .int) (C := RX6) (T := TX6) (N := 25) hx hb hts hinX6 tyX6 tyX6_ok nmX6 hown hK.1 hP hD hS 0 rfl rfl 0 (by decide) hw1 (fun _ h9 => h9) rfl (by decide +kernel) rfl rfl (Nat.le_of_ble_eq_true rfl) dX6_best_2 (fun H locs hP hD hS => ?_)
  have hP : va_P D vwK (w6 cI cJ h6 labels6a guesses6a comes6a sizes6a words6a told6a behind6a shares6a start6a move6a show6a signs6a many6a bestPath6a nextStart6a nextMove6a nextShow6a thrown6_1 rows6 labels6 guesses6 comes6 sizes6 words6 up6 down6 weightAbove6 weightBelow6 told6 length6 behind6 shares6 over6 start6 move6 show6 signs6 many6 bestPath6 nextStart6 nextMove6 nextShow6) H := hP
  have hD : va_D A (w6 cI cJ h6 labels6a guesses6a comes6a sizes6a words6a told6a behind6a shares6a start6a move6a show6a signs6a many6a bestPath6a nextStart6a nextMove6a nextShow6a thrown6_1 rows6 labels6 guesses6 comes6 sizes6 words6 up6 down6 weightAbove6 weightBelow6 told6 length6 behind6 shares6 over6 start6 move6 show6 signs6 many6 bestPath6 nextStart6 nextMove6 nextShow6) := hD
  refine lv_aload_n hx hb dX6_best_5 rfl (lv_at hl 0 rfl) ?_
  refine lv_iload_n hx hb dX6_best_6 rfl (lv_at hl 1 rfl) ?_
  obtain ⟨r_2, hc_3, h⟩ := bd_s h
  refine callTi (As := [.int i1]) (rest := []) ⟨hx, hb, hml, hown, hts⟩ (c_X6_isRow l D cI cJ h6 labels6a guesses6a comes6a sizes6a words6a told6a behind6a shares6a start6a move6a show6a signs6a many6a bestPath6a nextStart6a nextMove6a nextShow6a thrown6_1 rows6 labels6 guesses6 comes6 sizes6 words6 up6 down6 weightAbove6 weightBelow6 told6 length6 behind6 shares6 over6 start6 move6 show6 signs6 many6 bestPath6 nextStart6 nextMove6 nextShow6 i1 r_2 hc_3) (cwV 1 hts gX6_best_X6_isRow rfl rfl rfl (by decide +kernel) ⟨Nat.le_of_ble_eq_true rfl, Nat.le_of_ble_eq_true rfl⟩) hK hP hD hS hA 0 5 rfl rfl rfl rfl hl.1 rfl (Nat.le_of_ble_eq_true rfl) dX6_best_7 ⟨Nat.zero_le _, Nat.zero_le _⟩ (fun H locs hP hD hS => ?_)
  refine lv_if_eq (tgt := 21) hx hb dX6_best_10 (by decide) (fun c_4 => ?_) (fun c_4 => ?_)
  · have h := it_p c_4 h
    refine lv_bipush (v := (-2)) hx hb dX6_best_21 (by decide) ?_
    cases h
    exact hret _ _ _ _ hP hD hS dX6_best_23
  · have h := it_n c_4 h
    refine lv_aload_n hx hb dX6_best_13 rfl (lv_at hl 0 rfl) ?_
    refine lv_iload_n hx hb dX6_best_14 rfl (lv_at hl 1 rfl) ?_
    obtain ⟨⟨r_5, weightAbove6_6, weightBelow6_7⟩, hc_8, h⟩ := bd_s h
    refine callTi (As := [.int i1]) (rest := []) ⟨hx, hb, hml, hown, hts⟩ (c_X6_bestOf l D cI cJ h6 labels6a guesses6a comes6a sizes6a words6a told6a behind6a shares6a start6a move6a show6a signs6a many6a bestPath6a nextStart6a nextMove6a nextShow6a thrown6_1 rows6 labels6 guesses6 comes6 sizes6 words6 up6 down6 weightAbove6 weightBelow6 told6 length6 behind6 shares6 over6 start6 move6 show6 signs6 many6 bestPath6 nextStart6 nextMove6 nextShow6 i1 r_5 weightAbove6_6 weightBelow6_7 hc_8) (cwV 1 hts gX6_best_X6_bestOf rfl rfl rfl (by decide +kernel) ⟨Nat.le_of_ble_eq_true rfl, Nat.le_of_ble_eq_true rfl⟩) hK hP hD hS hA 0 5 rfl rfl rfl rfl hl.1 rfl (Nat.le_of_ble_eq_true rfl) dX6_best_15 ⟨Nat.zero_le _, Nat.zero_le _⟩ (fun H locs hP hD hS => ?_)
    refine lv_goto (tgt := 23) hx hb dX6_best_18 (by decide) ?_
    cases h
    exact hret _ _ _ _ hP hD hS dX6_best_23
def f_X6_round_L2 (rows6 : Int32) (labels6 : Nat → Int32) (guesses6 : Nat → Int32) (sizes6 : Nat → Int32) (words6 : Nat → Int32) (up6 : Int32) (down6 : Int32) : Nat → Int32 → (Nat → Int32) → Int64 → Int64 → Option (Int32 × (Nat → Int32) × Int64 × Int64)
  | 0, _, _, _, _ => none
  | n + 1, y1_2, comes6_3, weightAbove6_4, weightBelow6_5 =>
  if rows6 ≤ y1_2 then
    some (y1_2, comes6_3, weightAbove6_4, weightBelow6_5)
  else
    gA 40 labels6 y1_2 fun v_12 =>
    if v_12 < 0 then
      Option.bind (f_X6_bestOf y1_2 rows6 labels6 guesses6 sizes6 words6 up6 down6 weightAbove6_4 weightBelow6_5) fun (r_14, weightAbove6_15, weightBelow6_16) =>
      sI 40 comes6_3 y1_2 r_14 fun comes6_19 =>
      nm (α := Int32) (y1_2 + 1) fun x1_20 =>
      f_X6_round_L2 rows6 labels6 guesses6 sizes6 words6 up6 down6 n x1_20 comes6_19 weightAbove6_15 weightBelow6_16
    else
      sI 40 comes6_3 y1_2 (-1) fun comes6_22 =>
      nm (α := Int32) (y1_2 + 1) fun x1_23 =>
      f_X6_round_L2 rows6 labels6 guesses6 sizes6 words6 up6 down6 n x1_23 comes6_22 weightAbove6_4 weightBelow6_5
def f_X6_round_L44 (rows6 : Int32) (comes6_25 : Nat → Int32) : Nat → Int32 → Int32 → (Nat → Int32) → Option (Int32 × Int32 × (Nat → Int32))
  | 0, _, _, _ => none
  | n + 1, y2_31, y1_32, guesses6_33 =>
  if rows6 ≤ y2_31 then
    some (y2_31, y1_32, guesses6_33)
  else
    if y1_32 = 0 then
      gA 40 guesses6_33 y2_31 fun v_46 =>
      gA 40 comes6_25 y2_31 fun v_48 =>
      if v_46 = v_48 then
        nm (α := Int32) (0) fun x1_50 =>
        gA 40 comes6_25 y2_31 fun v_52 =>
        sI 40 guesses6_33 y2_31 v_52 fun guesses6_54 =>
        nm (α := Int32) (y2_31 + 1) fun x2_55 =>
        f_X6_round_L44 rows6 comes6_25 n x2_55 x1_50 guesses6_54
      else
        nm (α := Int32) (1) fun x1_56 =>
        gA 40 comes6_25 y2_31 fun v_58 =>
        sI 40 guesses6_33 y2_31 v_58 fun guesses6_60 =>
        nm (α := Int32) (y2_31 + 1) fun x2_61 =>
        f_X6_round_L44 rows6 comes6_25 n x2_61 x1_56 guesses6_60
    else
      nm (α := Int32) (1) fun x1_39 =>
      gA 40 comes6_25 y2_31 fun v_41 =>
      sI 40 guesses6_33 y2_31 v_41 fun guesses6_43 =>
      nm (α := Int32) (y2_31 + 1) fun x2_44 =>
      f_X6_round_L44 rows6 comes6_25 n x2_44 x1_39 guesses6_43
def f_X6_round (rows6 : Int32) (labels6 : Nat → Int32) (guesses6 : Nat → Int32) (comes6 : Nat → Int32) (sizes6 : Nat → Int32) (words6 : Nat → Int32) (up6 : Int32) (down6 : Int32) (weightAbove6 : Int64) (weightBelow6 : Int64) : Option (Int32 × (Nat → Int32) × (Nat → Int32) × Int64 × Int64) :=
  nm (α := Int32) (0) fun x1_1 =>
  Option.bind (f_X6_round_L2 rows6 labels6 guesses6 sizes6 words6 up6 down6 FU x1_1 comes6 weightAbove6 weightBelow6) fun (z1_24, comes6_25, weightAbove6_26, weightBelow6_27) =>
  nm (α := Int32) (0) fun x1_29 =>
  nm (α := Int32) (0) fun x2_30 =>
  Option.bind (f_X6_round_L44 rows6 comes6_25 FU x2_30 x1_29 guesses6) fun (z2_62, z1_63, guesses6_64) =>
  bz z1_63 <|
  some (z1_63, guesses6_64, comes6_25, weightAbove6_26, weightBelow6_27)
set_option maxHeartbeats 4000000 in
set_option maxRecDepth 100000 in
theorem c_X6_round (l : Launch) (D : va_G) (cI cJ : ClassId) (h6 labels6a guesses6a comes6a sizes6a words6a told6a behind6a shares6a start6a move6a show6a signs6a many6a bestPath6a nextStart6a nextMove6a nextShow6a : Nat) (thrown6 : Int32) (rows6 : Int32) (labels6 : Nat → Int32) (guesses6 : Nat → Int32) (comes6 : Nat → Int32) (sizes6 : Nat → Int32) (words6 : Nat → Int32) (up6 : Int32) (down6 : Int32) (weightAbove6 : Int64) (weightBelow6 : Int64) (told6 : Nat → Int32) (length6 : Int32) (behind6 : Nat → Int32) (shares6 : Nat → Int64) (over6 : Int64) (start6 : Nat → Int32) (move6 : Nat → Int32) (show6 : Nat → Int32) (signs6 : Nat → Int32) (many6 : Nat → Int32) (bestPath6 : Nat → Int32) (nextStart6 : Nat → Int32) (nextMove6 : Nat → Int32) (nextShow6 : Nat → Int32) (ret9 : Int32) (guesses6z : Nat → Int32) (comes6z : Nat → Int32) (weightAbove6z : Int64) (weightBelow6z : Int64) (h : f_X6_round rows6 labels6 guesses6 comes6 sizes6 words6 up6 down6 weightAbove6 weightBelow6 = some (ret9, guesses6z, comes6z, weightAbove6z, weightBelow6z)) : CI l D cI cJ yX6_round wsX6_round 5 120 [.ref h6] (w6 cI cJ h6 labels6a guesses6a comes6a sizes6a words6a told6a behind6a shares6a start6a move6a show6a signs6a many6a bestPath6a nextStart6a nextMove6a nextShow6a thrown6 rows6 labels6 guesses6 comes6 sizes6 words6 up6 down6 weightAbove6 weightBelow6 told6 length6 behind6 shares6 over6 start6 move6 show6 signs6 many6 bestPath6 nextStart6 nextMove6 nextShow6) (w6 cI cJ h6 labels6a guesses6a comes6a sizes6a words6a told6a behind6a shares6a start6a move6a show6a signs6a many6a bestPath6a nextStart6a nextMove6a nextShow6a thrown6 rows6 labels6 guesses6z comes6z sizes6 words6 up6 down6 weightAbove6z weightBelow6z told6 length6 behind6 shares6 over6 start6 move6 show6 signs6 many6 bestPath6 nextStart6 nextMove6 nextShow6) ret9 := by
  refine entZ (cc := cX6_round) (maxL := 3) (by decide) rfl (Nat.le_of_ble_eq_true rfl) ?_
  intro p e s m args below meth c ls A Q X hret
  obtain ⟨hx, hb, hml, hts, hown, hK, hA, hP, hD, hS, hl, hnm⟩ := X
  have hown : s.vm.findClass RX6 = some m.cls := hown
  have hl : lv_has ls 3 [(0, .ref h6)] := hl
  have hw1 : (Cond.fieldLink RX6 76 "CountLearnersModel" "rows" "I").before args s = true := hts _ (by decide +kernel)
  have hinX6 : ∀ w ∈ wsX60, w ∈ wsX6_round := by decide +kernel
  have hw3 : (Cond.fieldLink RX6 16 "CountLearnersModel" "comes" "[I").before args s = true := hts _ (by decide +kernel)
  have hw4 : (Cond.fieldLink RX6 7 "CountLearnersModel" "labels" "[I").before args s = true := hts _ (by decide +kernel)
  have hw5 : (Cond.fieldLink RX6 13 "CountLearnersModel" "guesses" "[I").before args s = true := hts _ (by decide +kernel)
  unfold f_X6_round at h
  refine lv_iconst (v := 0) hx hb dX6_round_0 (by decide) ?_
  refine lv_topi (fun x1_1 ex1_1 => ?_)
  have h := nm_s h x1_1 ex1_1
  refine lv_istore_n (lv' := [(1, .int x1_1), (0, .ref h6)]) hx hb dX6_round_1 rfl hl (by decide) rfl (fun ls hl => ?_)
  have L2 : ∀ (n : Nat) (y1_2 : Int32) (comes6_3 : Nat → Int32) (weightAbove6_4 : Int64) (weightBelow6_5 : Int64) (z1_6 : Int32) (comes6_7 : Nat → Int32) (weightAbove6_8 : Int64) (weightBelow6_9 : Int64), f_X6_round_L2 rows6 labels6 guesses6 sizes6 words6 up6 down6 n y1_2 comes6_3 weightAbove6_4 weightBelow6_5 = some (z1_6, comes6_7, weightAbove6_8, weightBelow6_9) → ∀ (H : Heap) (locs : List Loc) (ls : Array Slot), va_P D vwK (w6 cI cJ h6 labels6a guesses6a comes6a sizes6a words6a told6a behind6a shares6a start6a move6a show6a signs6a many6a bestPath6a nextStart6a nextMove6a nextShow6a thrown6 rows6 labels6 guesses6 comes6_3 sizes6 words6 up6 down6 weightAbove6_4 weightBelow6_5 told6 length6 behind6 shares6 over6 start6 move6 show6 signs6 many6 bestPath6 nextStart6 nextMove6 nextShow6) H → va_D A (w6 cI cJ h6 labels6a guesses6a comes6a sizes6a words6a told6a behind6a shares6a start6a move6a show6a signs6a many6a bestPath6a nextStart6a nextMove6a nextShow6a thrown6 rows6 labels6 guesses6 comes6_3 sizes6 words6 up6 down6 weightAbove6_4 weightBelow6_5 told6 length6 behind6 shares6 over6 start6 move6 show6 signs6 many6 bestPath6 nextStart6 nextMove6 nextShow6) → va_S A s.heap H locs → lv_has ls 3 [(1, .int y1_2), (0, .ref h6)] → (∀ (H : Heap) (locs : List Loc) (ls : Array Slot), va_P D vwK (w6 cI cJ h6 labels6a guesses6a comes6a sizes6a words6a told6a behind6a shares6a start6a move6a show6a signs6a many6a bestPath6a nextStart6a nextMove6a nextShow6a thrown6 rows6 labels6 guesses6 comes6_7 sizes6 words6 up6 down6 weightAbove6_8 weightBelow6_9 told6 length6 behind6 shares6 over6 start6 move6 show6 signs6 many6 bestPath6 nextStart6 nextMove6 nextShow6) H → va_D A (w6 cI cJ h6 labels6a guesses6a comes6a sizes6a words6a told6a behind6a shares6a start6a move6a show6a signs6a many6a bestPath6a nextStart6a nextMove6a nextShow6a thrown6 rows6 labels6 guesses6 comes6_7 sizes6 words6 up6 down6 weightAbove6_8 weightBelow6_9 told6 length6 behind6 shares6 over6 start6 move6 show6 signs6 many6 bestPath6 nextStart6 nextMove6 nextShow6) → va_S A s.heap H locs → lv_has ls 3 [(0, .ref h6)] → W p l e (rmOf 5 120) s m args below meth c H locs 0 0 Q (F0 m 40 ls [])) → W p l e (rmOf 5 120) s m args below meth c H locs 0 0 Q (F0 m 2 ls []) := by
    intro n
    induction n with
    | zero => intro y1_2 comes6_3 weightAbove6_4 weightBelow6_5 z1_6 comes6_7 weightAbove6_8 weightBelow6_9 h; rw [f_X6_round_L2.eq_1] at h; cases h
    | succ n ih =>
      intro y1_2 comes6_3 weightAbove6_4 weightBelow6_5 z1_6 comes6_7 weightAbove6_8 weightBelow6_9 h H locs ls hP hD hS hl K
      rw [f_X6_round_L2.eq_2] at h
      refine lv_iload_n hx hb dX6_round_2 rfl (lv_at hl 0 rfl) ?_
      refine lv_aload_n hx hb dX6_round_3 rfl (lv_at hl 1 rfl) ?_
      refine va_get (D := D) (ci := 5) (v := .int rows6) (C := RX6) (T := TX6) (N := 25) hx hb hts hinX6 hown hK.1 hP 0 rfl rfl 1 (by decide) hw1 (fun _ h9 => h9) rfl dX6_round_4 ?_
      refine lv_icmp_ge (tgt := 40) hx hb dX6_round_7 (by decide) (fun c_10 => ?_) (fun c_10 => ?_)
      · have h := it_p c_10 h
        cases h
        exact K _ _ _ hP hD hS (lv_sub hl [1] rfl)
      · have h := it_n c_10 h
        refine lv_aload_n hx hb dX6_round_10 rfl (lv_at hl 1 rfl) ?_
        refine va_get (D := D) (ci := 5) (v := .ref comes6a) (C := RX6) (T := TX6) (N := 25) hx hb hts hinX6 hown hK.1 hP 0 rfl rfl 4 (by decide) hw3 (fun _ h9 => h9) rfl dX6_round_11 ?_
        refine lv_iload_n hx hb dX6_round_14 rfl (lv_at hl 0 rfl) ?_
        refine lv_aload_n hx hb dX6_round_15 rfl (lv_at hl 1 rfl) ?_
        refine va_get (D := D) (ci := 5) (v := .ref labels6a) (C := RX6) (T := TX6) (N := 25) hx hb hts hinX6 hown hK.1 hP 0 rfl rfl 2 (by decide) hw4 (fun _ h9 => h9) rfl dX6_round_16 ?_
        refine lv_iload_n hx hb dX6_round_19 rfl (lv_at hl 0 rfl) ?_
        obtain ⟨hi_11, h⟩ := gA_s h
        refine va_iald hx hb hK.1 hP 1 0 rfl rfl hi_11 dX6_round_20 ?_
        refine lv_topi (fun v_12 ev_12 => ?_)
        have h := h v_12 ev_12
        refine lv_if_lt (tgt := 28) hx hb dX6_round_21 (by decide) (fun c_13 => ?_) (fun c_13 => ?_)
        · have h := it_p c_13 h
          refine lv_aload_n hx hb dX6_round_28 rfl (lv_at hl 1 rfl) ?_
          refine lv_iload_n hx hb dX6_round_29 rfl (lv_at hl 0 rfl) ?_
          obtain ⟨⟨r_14, weightAbove6_15, weightBelow6_16⟩, hc_17, h⟩ := bd_s h
          refine callTi (As := [.int y1_2]) (rest := [.int y1_2, .ref comes6a]) ⟨hx, hb, hml, hown, hts⟩ (c_X6_bestOf l D cI cJ h6 labels6a guesses6a comes6a sizes6a words6a told6a behind6a shares6a start6a move6a show6a signs6a many6a bestPath6a nextStart6a nextMove6a nextShow6a thrown6 rows6 labels6 guesses6 comes6_3 sizes6 words6 up6 down6 weightAbove6_4 weightBelow6_5 told6 length6 behind6 shares6 over6 start6 move6 show6 signs6 many6 bestPath6 nextStart6 nextMove6 nextShow6 y1_2 r_14 weightAbove6_15 weightBelow6_16 hc_17) (cwV 1 hts gX6_round_X6_bestOf rfl rfl rfl (by decide +kernel) ⟨Nat.le_of_ble_eq_true rfl, Nat.le_of_ble_eq_true rfl⟩) hK hP hD hS hA 0 5 rfl rfl rfl rfl hl.1 rfl (Nat.le_of_ble_eq_true rfl) dX6_round_30 ⟨Nat.zero_le _, Nat.zero_le _⟩ (fun H locs hP hD hS => ?_)
          obtain ⟨hi_18, h⟩ := sI_s h
          refine va_iast hx hb hK.1 hP hD hS 3 0 rfl rfl hi_18 dX6_round_33 (fun H locs hP hD hS => ?_)
          obtain ⟨comes6_19, ecomes6_19⟩ : ∃ z, z = upd comes6_3 (Int32.toNatClampNeg y1_2) r_14 := ⟨_, rfl⟩
          have h := h comes6_19 ecomes6_19
          rw [← ecomes6_19] at hP hD
          have hP : va_P D vwK (w6 cI cJ h6 labels6a guesses6a comes6a sizes6a words6a told6a behind6a shares6a start6a move6a show6a signs6a many6a bestPath6a nextStart6a nextMove6a nextShow6a thrown6 rows6 labels6 guesses6 comes6_19 sizes6 words6 up6 down6 weightAbove6_15 weightBelow6_16 told6 length6 behind6 shares6 over6 start6 move6 show6 signs6 many6 bestPath6 nextStart6 nextMove6 nextShow6) H := hP
          have hD : va_D A (w6 cI cJ h6 labels6a guesses6a comes6a sizes6a words6a told6a behind6a shares6a start6a move6a show6a signs6a many6a bestPath6a nextStart6a nextMove6a nextShow6a thrown6 rows6 labels6 guesses6 comes6_19 sizes6 words6 up6 down6 weightAbove6_15 weightBelow6_16 told6 length6 behind6 shares6 over6 start6 move6 show6 signs6 many6 bestPath6 nextStart6 nextMove6 nextShow6) := hD
          obtain ⟨x1_20, ex1_20⟩ : ∃ z : Int32, z = y1_2 + 1 := ⟨_, rfl⟩
          have h := nm_s h x1_20 ex1_20
          refine lv_iinc (v := x1_20) (lv' := [(1, .int x1_20), (0, .ref h6)]) hx hb dX6_round_34 hl (k := 0) rfl (by rw [ex1_20]; rfl) (by decide) rfl (fun ls hl => ?_)
          refine lv_goto (tgt := 2) hx hb dX6_round_37 (by decide) ?_
          exact ih _ _ _ _ _ _ _ _ h _ _ _ hP hD hS (lv_sub hl [0, 1] rfl) K
        · have h := it_n c_13 h
          refine lv_iconst (v := (-1)) hx hb dX6_round_24 (by decide) ?_
          refine lv_goto (tgt := 33) hx hb dX6_round_25 (by decide) ?_
          obtain ⟨hi_21, h⟩ := sI_s h
          refine va_iast hx hb hK.1 hP hD hS 3 0 rfl rfl hi_21 dX6_round_33 (fun H locs hP hD hS => ?_)
          obtain ⟨comes6_22, ecomes6_22⟩ : ∃ z, z = upd comes6_3 (Int32.toNatClampNeg y1_2) (-1) := ⟨_, rfl⟩
          have h := h comes6_22 ecomes6_22
          rw [← ecomes6_22] at hP hD
          have hP : va_P D vwK (w6 cI cJ h6 labels6a guesses6a comes6a sizes6a words6a told6a behind6a shares6a start6a move6a show6a signs6a many6a bestPath6a nextStart6a nextMove6a nextShow6a thrown6 rows6 labels6 guesses6 comes6_22 sizes6 words6 up6 down6 weightAbove6_4 weightBelow6_5 told6 length6 behind6 shares6 over6 start6 move6 show6 signs6 many6 bestPath6 nextStart6 nextMove6 nextShow6) H := hP
          have hD : va_D A (w6 cI cJ h6 labels6a guesses6a comes6a sizes6a words6a told6a behind6a shares6a start6a move6a show6a signs6a many6a bestPath6a nextStart6a nextMove6a nextShow6a thrown6 rows6 labels6 guesses6 comes6_22 sizes6 words6 up6 down6 weightAbove6_4 weightBelow6_5 told6 length6 behind6 shares6 over6 start6 move6 show6 signs6 many6 bestPath6 nextStart6 nextMove6 nextShow6) := hD
          obtain ⟨x1_23, ex1_23⟩ : ∃ z : Int32, z = y1_2 + 1 := ⟨_, rfl⟩
          have h := nm_s h x1_23 ex1_23
          refine lv_iinc (v := x1_23) (lv' := [(1, .int x1_23), (0, .ref h6)]) hx hb dX6_round_34 hl (k := 0) rfl (by rw [ex1_23]; rfl) (by decide) rfl (fun ls hl => ?_)
          refine lv_goto (tgt := 2) hx hb dX6_round_37 (by decide) ?_
          exact ih _ _ _ _ _ _ _ _ h _ _ _ hP hD hS (lv_sub hl [0, 1] rfl) K
  obtain ⟨⟨z1_24, comes6_25, weightAbove6_26, weightBelow6_27⟩, hl_28, h⟩ := bd_s h
  refine L2 FU x1_1 comes6 weightAbove6 weightBelow6 _ _ _ _ hl_28 _ _ _ hP hD hS (lv_sub hl [0, 1] rfl) (fun H locs ls hP hD hS hl => ?_)
  refine lv_iconst (v := 0) hx hb dX6_round_40 (by decide) ?_
  refine lv_topi (fun x1_29 ex1_29 => ?_)
  have h := nm_s h x1_29 ex1_29
  refine lv_istore_n (lv' := [(1, .int x1_29), (0, .ref h6)]) hx hb dX6_round_41 rfl hl (by decide) rfl (fun ls hl => ?_)
  refine lv_iconst (v := 0) hx hb dX6_round_42 (by decide) ?_
  refine lv_topi (fun x2_30 ex2_30 => ?_)
  have h := nm_s h x2_30 ex2_30
  refine lv_istore_n (lv' := [(2, .int x2_30), (1, .int x1_29), (0, .ref h6)]) hx hb dX6_round_43 rfl hl (by decide) rfl (fun ls hl => ?_)
  have L44 : ∀ (n : Nat) (y2_31 : Int32) (y1_32 : Int32) (guesses6_33 : Nat → Int32) (z2_34 : Int32) (z1_35 : Int32) (guesses6_36 : Nat → Int32), f_X6_round_L44 rows6 comes6_25 n y2_31 y1_32 guesses6_33 = some (z2_34, z1_35, guesses6_36) → ∀ (H : Heap) (locs : List Loc) (ls : Array Slot), va_P D vwK (w6 cI cJ h6 labels6a guesses6a comes6a sizes6a words6a told6a behind6a shares6a start6a move6a show6a signs6a many6a bestPath6a nextStart6a nextMove6a nextShow6a thrown6 rows6 labels6 guesses6_33 comes6_25 sizes6 words6 up6 down6 weightAbove6_26 weightBelow6_27 told6 length6 behind6 shares6 over6 start6 move6 show6 signs6 many6 bestPath6 nextStart6 nextMove6 nextShow6) H → va_D A (w6 cI cJ h6 labels6a guesses6a comes6a sizes6a words6a told6a behind6a shares6a start6a move6a show6a signs6a many6a bestPath6a nextStart6a nextMove6a nextShow6a thrown6 rows6 labels6 guesses6_33 comes6_25 sizes6 words6 up6 down6 weightAbove6_26 weightBelow6_27 told6 length6 behind6 shares6 over6 start6 move6 show6 signs6 many6 bestPath6 nextStart6 nextMove6 nextShow6) → va_S A s.heap H locs → lv_has ls 3 [(2, .int y2_31), (1, .int y1_32), (0, .ref h6)] → (∀ (H : Heap) (locs : List Loc) (ls : Array Slot), va_P D vwK (w6 cI cJ h6 labels6a guesses6a comes6a sizes6a words6a told6a behind6a shares6a start6a move6a show6a signs6a many6a bestPath6a nextStart6a nextMove6a nextShow6a thrown6 rows6 labels6 guesses6_36 comes6_25 sizes6 words6 up6 down6 weightAbove6_26 weightBelow6_27 told6 length6 behind6 shares6 over6 start6 move6 show6 signs6 many6 bestPath6 nextStart6 nextMove6 nextShow6) H → va_D A (w6 cI cJ h6 labels6a guesses6a comes6a sizes6a words6a told6a behind6a shares6a start6a move6a show6a signs6a many6a bestPath6a nextStart6a nextMove6a nextShow6a thrown6 rows6 labels6 guesses6_36 comes6_25 sizes6 words6 up6 down6 weightAbove6_26 weightBelow6_27 told6 length6 behind6 shares6 over6 start6 move6 show6 signs6 many6 bestPath6 nextStart6 nextMove6 nextShow6) → va_S A s.heap H locs → lv_has ls 3 [(1, .int z1_35)] → W p l e (rmOf 5 120) s m args below meth c H locs 0 0 Q (F0 m 95 ls [])) → W p l e (rmOf 5 120) s m args below meth c H locs 0 0 Q (F0 m 44 ls []) := by
    intro n
    induction n with
    | zero => intro y2_31 y1_32 guesses6_33 z2_34 z1_35 guesses6_36 h; rw [f_X6_round_L44.eq_1] at h; cases h
    | succ n ih =>
      intro y2_31 y1_32 guesses6_33 z2_34 z1_35 guesses6_36 h H locs ls hP hD hS hl K
      rw [f_X6_round_L44.eq_2] at h
      refine lv_iload_n hx hb dX6_round_44 rfl (lv_at hl 0 rfl) ?_
      refine lv_aload_n hx hb dX6_round_45 rfl (lv_at hl 2 rfl) ?_
      refine va_get (D := D) (ci := 5) (v := .int rows6) (C := RX6) (T := TX6) (N := 25) hx hb hts hinX6 hown hK.1 hP 0 rfl rfl 1 (by decide) hw1 (fun _ h9 => h9) rfl dX6_round_46 ?_
      refine lv_icmp_ge (tgt := 95) hx hb dX6_round_49 (by decide) (fun c_37 => ?_) (fun c_37 => ?_)
      · have h := it_p c_37 h
        cases h
        exact K _ _ _ hP hD hS (lv_sub hl [1] rfl)
      · have h := it_n c_37 h
        refine lv_iload_n hx hb dX6_round_52 rfl (lv_at hl 1 rfl) ?_
        refine lv_if_ne (tgt := 71) hx hb dX6_round_53 (by decide) (fun c_38 => ?_) (fun c_38 => ?_)
        · have h := it_n c_38 h
          refine lv_iconst (v := 1) hx hb dX6_round_71 (by decide) ?_
          refine lv_goto (tgt := 76) hx hb dX6_round_72 (by decide) ?_
          refine lv_topi (fun x1_39 ex1_39 => ?_)
          have h := nm_s h x1_39 ex1_39
          refine lv_istore_n (lv' := [(1, .int x1_39), (2, .int y2_31), (0, .ref h6)]) hx hb dX6_round_76 rfl hl (by decide) rfl (fun ls hl => ?_)
          refine lv_aload_n hx hb dX6_round_77 rfl (lv_at hl 2 rfl) ?_
          refine va_get (D := D) (ci := 5) (v := .ref guesses6a) (C := RX6) (T := TX6) (N := 25) hx hb hts hinX6 hown hK.1 hP 0 rfl rfl 3 (by decide) hw5 (fun _ h9 => h9) rfl dX6_round_78 ?_
          refine lv_iload_n hx hb dX6_round_81 rfl (lv_at hl 1 rfl) ?_
          refine lv_aload_n hx hb dX6_round_82 rfl (lv_at hl 2 rfl) ?_
          refine va_get (D := D) (ci := 5) (v := .ref comes6a) (C := RX6) (T := TX6) (N := 25) hx hb hts hinX6 hown hK.1 hP 0 rfl rfl 4 (by decide) hw3 (fun _ h9 => h9) rfl dX6_round_83 ?_
          refine lv_iload_n hx hb dX6_round_86 rfl (lv_at hl 1 rfl) ?_
          obtain ⟨hi_40, h⟩ := gA_s h
          refine va_iald hx hb hK.1 hP 3 0 rfl rfl hi_40 dX6_round_87 ?_
          refine lv_topi (fun v_41 ev_41 => ?_)
          have h := h v_41 ev_41
          obtain ⟨hi_42, h⟩ := sI_s h
          refine va_iast hx hb hK.1 hP hD hS 2 0 rfl rfl hi_42 dX6_round_88 (fun H locs hP hD hS => ?_)
          obtain ⟨guesses6_43, eguesses6_43⟩ : ∃ z, z = upd guesses6_33 (Int32.toNatClampNeg y2_31) v_41 := ⟨_, rfl⟩
          have h := h guesses6_43 eguesses6_43
          rw [← eguesses6_43] at hP hD
          have hP : va_P D vwK (w6 cI cJ h6 labels6a guesses6a comes6a sizes6a words6a told6a behind6a shares6a start6a move6a show6a signs6a many6a bestPath6a nextStart6a nextMove6a nextShow6a thrown6 rows6 labels6 guesses6_43 comes6_25 sizes6 words6 up6 down6 weightAbove6_26 weightBelow6_27 told6 length6 behind6 shares6 over6 start6 move6 show6 signs6 many6 bestPath6 nextStart6 nextMove6 nextShow6) H := hP
          have hD : va_D A (w6 cI cJ h6 labels6a guesses6a comes6a sizes6a words6a told6a behind6a shares6a start6a move6a show6a signs6a many6a bestPath6a nextStart6a nextMove6a nextShow6a thrown6 rows6 labels6 guesses6_43 comes6_25 sizes6 words6 up6 down6 weightAbove6_26 weightBelow6_27 told6 length6 behind6 shares6 over6 start6 move6 show6 signs6 many6 bestPath6 nextStart6 nextMove6 nextShow6) := hD
          obtain ⟨x2_44, ex2_44⟩ : ∃ z : Int32, z = y2_31 + 1 := ⟨_, rfl⟩
          have h := nm_s h x2_44 ex2_44
          refine lv_iinc (v := x2_44) (lv' := [(2, .int x2_44), (1, .int x1_39), (0, .ref h6)]) hx hb dX6_round_89 hl (k := 1) rfl (by rw [ex2_44]; rfl) (by decide) rfl (fun ls hl => ?_)
          refine lv_goto (tgt := 44) hx hb dX6_round_92 (by decide) ?_
          exact ih _ _ _ _ _ _ h _ _ _ hP hD hS (lv_sub hl [0, 1, 2] rfl) K
        · have h := it_p c_38 h
          refine lv_aload_n hx hb dX6_round_56 rfl (lv_at hl 2 rfl) ?_
          refine va_get (D := D) (ci := 5) (v := .ref guesses6a) (C := RX6) (T := TX6) (N := 25) hx hb hts hinX6 hown hK.1 hP 0 rfl rfl 3 (by decide) hw5 (fun _ h9 => h9) rfl dX6_round_57 ?_
          refine lv_iload_n hx hb dX6_round_60 rfl (lv_at hl 0 rfl) ?_
          obtain ⟨hi_45, h⟩ := gA_s h
          refine va_iald hx hb hK.1 hP 2 0 rfl rfl hi_45 dX6_round_61 ?_
          refine lv_topi (fun v_46 ev_46 => ?_)
          have h := h v_46 ev_46
          refine lv_aload_n hx hb dX6_round_62 rfl (lv_at hl 2 rfl) ?_
          refine va_get (D := D) (ci := 5) (v := .ref comes6a) (C := RX6) (T := TX6) (N := 25) hx hb hts hinX6 hown hK.1 hP 0 rfl rfl 4 (by decide) hw3 (fun _ h9 => h9) rfl dX6_round_63 ?_
          refine lv_iload_n hx hb dX6_round_66 rfl (lv_at hl 0 rfl) ?_
          obtain ⟨hi_47, h⟩ := gA_s h
          refine va_iald hx hb hK.1 hP 3 0 rfl rfl hi_47 dX6_round_67 ?_
          refine lv_topi (fun v_48 ev_48 => ?_)
          have h := h v_48 ev_48
          refine lv_icmp_eq (tgt := 75) hx hb dX6_round_68 (by decide) (fun c_49 => ?_) (fun c_49 => ?_)
          · have h := it_p c_49 h
            refine lv_iconst (v := 0) hx hb dX6_round_75 (by decide) ?_
            refine lv_topi (fun x1_50 ex1_50 => ?_)
            have h := nm_s h x1_50 ex1_50
            refine lv_istore_n (lv' := [(1, .int x1_50), (2, .int y2_31), (0, .ref h6)]) hx hb dX6_round_76 rfl hl (by decide) rfl (fun ls hl => ?_)
            refine lv_aload_n hx hb dX6_round_77 rfl (lv_at hl 2 rfl) ?_
            refine va_get (D := D) (ci := 5) (v := .ref guesses6a) (C := RX6) (T := TX6) (N := 25) hx hb hts hinX6 hown hK.1 hP 0 rfl rfl 3 (by decide) hw5 (fun _ h9 => h9) rfl dX6_round_78 ?_
            refine lv_iload_n hx hb dX6_round_81 rfl (lv_at hl 1 rfl) ?_
            refine lv_aload_n hx hb dX6_round_82 rfl (lv_at hl 2 rfl) ?_
            refine va_get (D := D) (ci := 5) (v := .ref comes6a) (C := RX6) (T := TX6) (N := 25) hx hb hts hinX6 hown hK.1 hP 0 rfl rfl 4 (by decide) hw3 (fun _ h9 => h9) rfl dX6_round_83 ?_
            refine lv_iload_n hx hb dX6_round_86 rfl (lv_at hl 1 rfl) ?_
            obtain ⟨hi_51, h⟩ := gA_s h
            refine va_iald hx hb hK.1 hP 3 0 rfl rfl hi_51 dX6_round_87 ?_
            refine lv_topi (fun v_52 ev_52 => ?_)
            have h := h v_52 ev_52
            obtain ⟨hi_53, h⟩ := sI_s h
            refine va_iast hx hb hK.1 hP hD hS 2 0 rfl rfl hi_53 dX6_round_88 (fun H locs hP hD hS => ?_)
            obtain ⟨guesses6_54, eguesses6_54⟩ : ∃ z, z = upd guesses6_33 (Int32.toNatClampNeg y2_31) v_52 := ⟨_, rfl⟩
            have h := h guesses6_54 eguesses6_54
            rw [← eguesses6_54] at hP hD
            have hP : va_P D vwK (w6 cI cJ h6 labels6a guesses6a comes6a sizes6a words6a told6a behind6a shares6a start6a move6a show6a signs6a many6a bestPath6a nextStart6a nextMove6a nextShow6a thrown6 rows6 labels6 guesses6_54 comes6_25 sizes6 words6 up6 down6 weightAbove6_26 weightBelow6_27 told6 length6 behind6 shares6 over6 start6 move6 show6 signs6 many6 bestPath6 nextStart6 nextMove6 nextShow6) H := hP
            have hD : va_D A (w6 cI cJ h6 labels6a guesses6a comes6a sizes6a words6a told6a behind6a shares6a start6a move6a show6a signs6a many6a bestPath6a nextStart6a nextMove6a nextShow6a thrown6 rows6 labels6 guesses6_54 comes6_25 sizes6 words6 up6 down6 weightAbove6_26 weightBelow6_27 told6 length6 behind6 shares6 over6 start6 move6 show6 signs6 many6 bestPath6 nextStart6 nextMove6 nextShow6) := hD
            obtain ⟨x2_55, ex2_55⟩ : ∃ z : Int32, z = y2_31 + 1 := ⟨_, rfl⟩
            have h := nm_s h x2_55 ex2_55
            refine lv_iinc (v := x2_55) (lv' := [(2, .int x2_55), (1, .int x1_50), (0, .ref h6)]) hx hb dX6_round_89 hl (k := 1) rfl (by rw [ex2_55]; rfl) (by decide) rfl (fun ls hl => ?_)
            refine lv_goto (tgt := 44) hx hb dX6_round_92 (by decide) ?_
            exact ih _ _ _ _ _ _ h _ _ _ hP hD hS (lv_sub hl [0, 1, 2] rfl) K
          · have h := it_n c_49 h
            refine lv_iconst (v := 1) hx hb dX6_round_71 (by decide) ?_
            refine lv_goto (tgt := 76) hx hb dX6_round_72 (by decide) ?_
            refine lv_topi (fun x1_56 ex1_56 => ?_)
            have h := nm_s h x1_56 ex1_56
            refine lv_istore_n (lv' := [(1, .int x1_56), (2, .int y2_31), (0, .ref h6)]) hx hb dX6_round_76 rfl hl (by decide) rfl (fun ls hl => ?_)
            refine lv_aload_n hx hb dX6_round_77 rfl (lv_at hl 2 rfl) ?_
            refine va_get (D := D) (ci := 5) (v := .ref guesses6a) (C := RX6) (T := TX6) (N := 25) hx hb hts hinX6 hown hK.1 hP 0 rfl rfl 3 (by decide) hw5 (fun _ h9 => h9) rfl dX6_round_78 ?_
            refine lv_iload_n hx hb dX6_round_81 rfl (lv_at hl 1 rfl) ?_
            refine lv_aload_n hx hb dX6_round_82 rfl (lv_at hl 2 rfl) ?_
            refine va_get (D := D) (ci := 5) (v := .ref comes6a) (C := RX6) (T := TX6) (N := 25) hx hb hts hinX6 hown hK.1 hP 0 rfl rfl 4 (by decide) hw3 (fun _ h9 => h9) rfl dX6_round_83 ?_
            refine lv_iload_n hx hb dX6_round_86 rfl (lv_at hl 1 rfl) ?_
            obtain ⟨hi_57, h⟩ := gA_s h
            refine va_iald hx hb hK.1 hP 3 0 rfl rfl hi_57 dX6_round_87 ?_
            refine lv_topi (fun v_58 ev_58 => ?_)
            have h := h v_58 ev_58
            obtain ⟨hi_59, h⟩ := sI_s h
            refine va_iast hx hb hK.1 hP hD hS 2 0 rfl rfl hi_59 dX6_round_88 (fun H locs hP hD hS => ?_)
            obtain ⟨guesses6_60, eguesses6_60⟩ : ∃ z, z = upd guesses6_33 (Int32.toNatClampNeg y2_31) v_58 := ⟨_, rfl⟩
            have h := h guesses6_60 eguesses6_60
            rw [← eguesses6_60] at hP hD
            have hP : va_P D vwK (w6 cI cJ h6 labels6a guesses6a comes6a sizes6a words6a told6a behind6a shares6a start6a move6a show6a signs6a many6a bestPath6a nextStart6a nextMove6a nextShow6a thrown6 rows6 labels6 guesses6_60 comes6_25 sizes6 words6 up6 down6 weightAbove6_26 weightBelow6_27 told6 length6 behind6 shares6 over6 start6 move6 show6 signs6 many6 bestPath6 nextStart6 nextMove6 nextShow6) H := hP
            have hD : va_D A (w6 cI cJ h6 labels6a guesses6a comes6a sizes6a words6a told6a behind6a shares6a start6a move6a show6a signs6a many6a bestPath6a nextStart6a nextMove6a nextShow6a thrown6 rows6 labels6 guesses6_60 comes6_25 sizes6 words6 up6 down6 weightAbove6_26 weightBelow6_27 told6 length6 behind6 shares6 over6 start6 move6 show6 signs6 many6 bestPath6 nextStart6 nextMove6 nextShow6) := hD
            obtain ⟨x2_61, ex2_61⟩ : ∃ z : Int32, z = y2_31 + 1 := ⟨_, rfl⟩
            have h := nm_s h x2_61 ex2_61
            refine lv_iinc (v := x2_61) (lv' := [(2, .int x2_61), (1, .int x1_56), (0, .ref h6)]) hx hb dX6_round_89 hl (k := 1) rfl (by rw [ex2_61]; rfl) (by decide) rfl (fun ls hl => ?_)
            refine lv_goto (tgt := 44) hx hb dX6_round_92 (by decide) ?_
            exact ih _ _ _ _ _ _ h _ _ _ hP hD hS (lv_sub hl [0, 1, 2] rfl) K
  obtain ⟨⟨z2_62, z1_63, guesses6_64⟩, hl_65, h⟩ := bd_s h
  refine L44 FU x2_30 x1_29 guesses6 _ _ _ hl_65 _ _ _ hP hD hS (lv_sub hl [0, 1, 2] rfl) (fun H locs ls hP hD hS hl => ?_)
  refine lv_iload_n hx hb dX6_round_95 rfl (lv_at hl 0 rfl) ?_
  obtain ⟨hz_66, h⟩ := bz_s h
  cases h
  exact hret _ _ _ _ hz_66 hP hD hS dX6_round_96
def f_X6_rounds_L20 (i1 : Int32) (rows6 : Int32) (labels6 : Nat → Int32) (sizes6 : Nat → Int32) (words6 : Nat → Int32) (up6 : Int32) (down6 : Int32) : Nat → Int32 → (Nat → Int32) → (Nat → Int32) → Int64 → Int64 → Option (Int32 × (Nat → Int32) × (Nat → Int32) × Int64 × Int64)
  | 0, _, _, _, _, _ => none
  | n + 1, y2_6, guesses6_7, comes6_8, weightAbove6_9, weightBelow6_10 =>
  Option.bind (f_X6_round rows6 labels6 guesses6_7 comes6_8 sizes6 words6 up6 down6 weightAbove6_9 weightBelow6_10) fun (r_16, guesses6_17, comes6_18, weightAbove6_19, weightBelow6_20) =>
  if r_16 = 0 then
    some (y2_6, guesses6_17, comes6_18, weightAbove6_19, weightBelow6_20)
  else
    if i1 ≤ y2_6 then
      some (y2_6, guesses6_17, comes6_18, weightAbove6_19, weightBelow6_20)
    else
      nm (α := Int32) (y2_6 + 1) fun x2_24 =>
      f_X6_rounds_L20 i1 rows6 labels6 sizes6 words6 up6 down6 n x2_24 guesses6_17 comes6_18 weightAbove6_19 weightBelow6_20
def f_X6_rounds (i1 : Int32) (thrown6 : Int32) (rows6 : Int32) (labels6 : Nat → Int32) (guesses6 : Nat → Int32) (comes6 : Nat → Int32) (sizes6 : Nat → Int32) (words6 : Nat → Int32) (up6 : Int32) (down6 : Int32) (weightAbove6 : Int64) (weightBelow6 : Int64) : Option (Int32 × Int32 × (Nat → Int32) × (Nat → Int32) × Int64 × Int64) :=
  nm (α := Int32) (0) fun thrown6_1 =>
  Option.bind (f_X6_within i1 1 20) fun r_2 =>
  if r_2 = 0 then
    some ((-2), thrown6_1, guesses6, comes6, weightAbove6, weightBelow6)
  else
    nm (α := Int32) (1) fun x2_5 =>
    Option.bind (f_X6_rounds_L20 i1 rows6 labels6 sizes6 words6 up6 down6 FU x2_5 guesses6 comes6 weightAbove6 weightBelow6) fun (z2_25, guesses6_26, comes6_27, weightAbove6_28, weightBelow6_29) =>
    some (z2_25, thrown6_1, guesses6_26, comes6_27, weightAbove6_28, weightBelow6_29)
set_option maxHeartbeats 4000000 in
set_option maxRecDepth 100000 in
theorem c_X6_rounds (l : Launch) (D : va_G) (cI cJ : ClassId) (h6 labels6a guesses6a comes6a sizes6a words6a told6a behind6a shares6a start6a move6a show6a signs6a many6a bestPath6a nextStart6a nextMove6a nextShow6a : Nat) (thrown6 : Int32) (rows6 : Int32) (labels6 : Nat → Int32) (guesses6 : Nat → Int32) (comes6 : Nat → Int32) (sizes6 : Nat → Int32) (words6 : Nat → Int32) (up6 : Int32) (down6 : Int32) (weightAbove6 : Int64) (weightBelow6 : Int64) (told6 : Nat → Int32) (length6 : Int32) (behind6 : Nat → Int32) (shares6 : Nat → Int64) (over6 : Int64) (start6 : Nat → Int32) (move6 : Nat → Int32) (show6 : Nat → Int32) (signs6 : Nat → Int32) (many6 : Nat → Int32) (bestPath6 : Nat → Int32) (nextStart6 : Nat → Int32) (nextMove6 : Nat → Int32) (nextShow6 : Nat → Int32) (i1 : Int32) (ret9 : Int32) (thrown6z : Int32) (guesses6z : Nat → Int32) (comes6z : Nat → Int32) (weightAbove6z : Int64) (weightBelow6z : Int64) (h : f_X6_rounds i1 thrown6 rows6 labels6 guesses6 comes6 sizes6 words6 up6 down6 weightAbove6 weightBelow6 = some (ret9, thrown6z, guesses6z, comes6z, weightAbove6z, weightBelow6z)) : CI l D cI cJ yX6_rounds wsX6_rounds 6 142 [.ref h6, .int i1] (w6 cI cJ h6 labels6a guesses6a comes6a sizes6a words6a told6a behind6a shares6a start6a move6a show6a signs6a many6a bestPath6a nextStart6a nextMove6a nextShow6a thrown6 rows6 labels6 guesses6 comes6 sizes6 words6 up6 down6 weightAbove6 weightBelow6 told6 length6 behind6 shares6 over6 start6 move6 show6 signs6 many6 bestPath6 nextStart6 nextMove6 nextShow6) (w6 cI cJ h6 labels6a guesses6a comes6a sizes6a words6a told6a behind6a shares6a start6a move6a show6a signs6a many6a bestPath6a nextStart6a nextMove6a nextShow6a thrown6z rows6 labels6 guesses6z comes6z sizes6 words6 up6 down6 weightAbove6z weightBelow6z told6 length6 behind6 shares6 over6 start6 move6 show6 signs6 many6 bestPath6 nextStart6 nextMove6 nextShow6) ret9 := by
  refine entI (cc := cX6_rounds) (maxL := 3) (by decide) rfl (Nat.le_of_ble_eq_true rfl) ?_
  intro p e s m args below meth c ls A Q X hret
  obtain ⟨hx, hb, hml, hts, hown, hK, hA, hP, hD, hS, hl, hnm⟩ := X
  have hown : s.vm.findClass RX6 = some m.cls := hown
  have hl : lv_has ls 3 [(0, .ref h6), (1, .int i1)] := hl
  have hw1 : (Cond.fieldLink RX6 69 "CountLearnersModel" "thrown" "I").before args s = true := hts _ (by decide +kernel)
  have hinX6 : ∀ w ∈ wsX60, w ∈ wsX6_rounds := by decide +kernel
  unfold f_X6_rounds at h
  refine lv_aload_n hx hb dX6_rounds_0 rfl (lv_at hl 0 rfl) ?_
  refine lv_iconst (v := 0) hx hb dX6_rounds_1 (by decide) ?_
  refine lv_topi (fun thrown6_1 ethrown6_1 => ?_)
  have h := nm_s h thrown6_1 ethrown6_1
  refine va_put (D := D) (ci := 5) (v := .int thrown6_1) (ty := .int) (C := RX6) (T := TX6) (N := 25) hx hb hts hinX6 tyX6 tyX6_ok nmX6 hown hK.1 hP hD hS 0 rfl rfl 0 (by decide) hw1 (fun _ h9 => h9) rfl (by decide +kernel) rfl rfl (Nat.le_of_ble_eq_true rfl) dX6_rounds_2 (fun H locs hP hD hS => ?_)
  have hP : va_P D vwK (w6 cI cJ h6 labels6a guesses6a comes6a sizes6a words6a told6a behind6a shares6a start6a move6a show6a signs6a many6a bestPath6a nextStart6a nextMove6a nextShow6a thrown6_1 rows6 labels6 guesses6 comes6 sizes6 words6 up6 down6 weightAbove6 weightBelow6 told6 length6 behind6 shares6 over6 start6 move6 show6 signs6 many6 bestPath6 nextStart6 nextMove6 nextShow6) H := hP
  have hD : va_D A (w6 cI cJ h6 labels6a guesses6a comes6a sizes6a words6a told6a behind6a shares6a start6a move6a show6a signs6a many6a bestPath6a nextStart6a nextMove6a nextShow6a thrown6_1 rows6 labels6 guesses6 comes6 sizes6 words6 up6 down6 weightAbove6 weightBelow6 told6 length6 behind6 shares6 over6 start6 move6 show6 signs6 many6 bestPath6 nextStart6 nextMove6 nextShow6) := hD
  refine lv_iload_n hx hb dX6_rounds_5 rfl (lv_at hl 1 rfl) ?_
  refine lv_iconst (v := 1) hx hb dX6_rounds_6 (by decide) ?_
  refine lv_bipush (v := 20) hx hb dX6_rounds_7 (by decide) ?_
  obtain ⟨r_2, hc_3, h⟩ := bd_s h
  refine callPi (As := [.int i1, .int 1, .int 20]) (rest := []) ⟨hx, hb, hml, hown, hts⟩ (c_X6_within l D cI cJ i1 1 20 r_2 hc_3) (va_cwS 3 hts gX6_rounds_X6_within rfl rfl rfl (by decide +kernel) ⟨Nat.le_of_ble_eq_true rfl, Nat.le_of_ble_eq_true rfl⟩) hK hP hD hS hA rfl hl.1 rfl (Nat.le_of_ble_eq_true rfl) dX6_rounds_9 ⟨Nat.zero_le _, Nat.zero_le _⟩ (fun H locs hP hD hS => ?_)
  refine lv_if_ne (tgt := 18) hx hb dX6_rounds_12 (by decide) (fun c_4 => ?_) (fun c_4 => ?_)
  · have h := it_n c_4 h
    refine lv_iconst (v := 1) hx hb dX6_rounds_18 (by decide) ?_
    refine lv_topi (fun x2_5 ex2_5 => ?_)
    have h := nm_s h x2_5 ex2_5
    refine lv_istore_n (lv' := [(2, .int x2_5), (0, .ref h6), (1, .int i1)]) hx hb dX6_rounds_19 rfl hl (by decide) rfl (fun ls hl => ?_)
    have L20 : ∀ (n : Nat) (y2_6 : Int32) (guesses6_7 : Nat → Int32) (comes6_8 : Nat → Int32) (weightAbove6_9 : Int64) (weightBelow6_10 : Int64) (z2_11 : Int32) (guesses6_12 : Nat → Int32) (comes6_13 : Nat → Int32) (weightAbove6_14 : Int64) (weightBelow6_15 : Int64), f_X6_rounds_L20 i1 rows6 labels6 sizes6 words6 up6 down6 n y2_6 guesses6_7 comes6_8 weightAbove6_9 weightBelow6_10 = some (z2_11, guesses6_12, comes6_13, weightAbove6_14, weightBelow6_15) → ∀ (H : Heap) (locs : List Loc) (ls : Array Slot), va_P D vwK (w6 cI cJ h6 labels6a guesses6a comes6a sizes6a words6a told6a behind6a shares6a start6a move6a show6a signs6a many6a bestPath6a nextStart6a nextMove6a nextShow6a thrown6_1 rows6 labels6 guesses6_7 comes6_8 sizes6 words6 up6 down6 weightAbove6_9 weightBelow6_10 told6 length6 behind6 shares6 over6 start6 move6 show6 signs6 many6 bestPath6 nextStart6 nextMove6 nextShow6) H → va_D A (w6 cI cJ h6 labels6a guesses6a comes6a sizes6a words6a told6a behind6a shares6a start6a move6a show6a signs6a many6a bestPath6a nextStart6a nextMove6a nextShow6a thrown6_1 rows6 labels6 guesses6_7 comes6_8 sizes6 words6 up6 down6 weightAbove6_9 weightBelow6_10 told6 length6 behind6 shares6 over6 start6 move6 show6 signs6 many6 bestPath6 nextStart6 nextMove6 nextShow6) → va_S A s.heap H locs → lv_has ls 3 [(2, .int y2_6), (0, .ref h6), (1, .int i1)] → (∀ (H : Heap) (locs : List Loc) (ls : Array Slot), va_P D vwK (w6 cI cJ h6 labels6a guesses6a comes6a sizes6a words6a told6a behind6a shares6a start6a move6a show6a signs6a many6a bestPath6a nextStart6a nextMove6a nextShow6a thrown6_1 rows6 labels6 guesses6_12 comes6_13 sizes6 words6 up6 down6 weightAbove6_14 weightBelow6_15 told6 length6 behind6 shares6 over6 start6 move6 show6 signs6 many6 bestPath6 nextStart6 nextMove6 nextShow6) H → va_D A (w6 cI cJ h6 labels6a guesses6a comes6a sizes6a words6a told6a behind6a shares6a start6a move6a show6a signs6a many6a bestPath6a nextStart6a nextMove6a nextShow6a thrown6_1 rows6 labels6 guesses6_12 comes6_13 sizes6 words6 up6 down6 weightAbove6_14 weightBelow6_15 told6 length6 behind6 shares6 over6 start6 move6 show6 signs6 many6 bestPath6 nextStart6 nextMove6 nextShow6) → va_S A s.heap H locs → lv_has ls 3 [(2, .int z2_11)] → W p l e (rmOf 6 142) s m args below meth c H locs 0 0 Q (F0 m 38 ls [])) → W p l e (rmOf 6 142) s m args below meth c H locs 0 0 Q (F0 m 20 ls []) := by
      intro n
      induction n with
      | zero => intro y2_6 guesses6_7 comes6_8 weightAbove6_9 weightBelow6_10 z2_11 guesses6_12 comes6_13 weightAbove6_14 weightBelow6_15 h; rw [f_X6_rounds_L20.eq_1] at h; cases h
      | succ n ih =>
        intro y2_6 guesses6_7 comes6_8 weightAbove6_9 weightBelow6_10 z2_11 guesses6_12 comes6_13 weightAbove6_14 weightBelow6_15 h H locs ls hP hD hS hl K
        rw [f_X6_rounds_L20.eq_2] at h
        refine lv_aload_n hx hb dX6_rounds_20 rfl (lv_at hl 1 rfl) ?_
        obtain ⟨⟨r_16, guesses6_17, comes6_18, weightAbove6_19, weightBelow6_20⟩, hc_21, h⟩ := bd_s h
        refine callTi (As := []) (rest := []) ⟨hx, hb, hml, hown, hts⟩ (c_X6_round l D cI cJ h6 labels6a guesses6a comes6a sizes6a words6a told6a behind6a shares6a start6a move6a show6a signs6a many6a bestPath6a nextStart6a nextMove6a nextShow6a thrown6_1 rows6 labels6 guesses6_7 comes6_8 sizes6 words6 up6 down6 weightAbove6_9 weightBelow6_10 told6 length6 behind6 shares6 over6 start6 move6 show6 signs6 many6 bestPath6 nextStart6 nextMove6 nextShow6 r_16 guesses6_17 comes6_18 weightAbove6_19 weightBelow6_20 hc_21) (cwV 0 hts gX6_rounds_X6_round rfl rfl rfl (by decide +kernel) ⟨Nat.le_of_ble_eq_true rfl, Nat.le_of_ble_eq_true rfl⟩) hK hP hD hS hA 0 5 rfl rfl rfl rfl hl.1 rfl (Nat.le_of_ble_eq_true rfl) dX6_rounds_21 ⟨Nat.zero_le _, Nat.zero_le _⟩ (fun H locs hP hD hS => ?_)
        refine lv_if_eq (tgt := 38) hx hb dX6_rounds_24 (by decide) (fun c_22 => ?_) (fun c_22 => ?_)
        · have h := it_p c_22 h
          cases h
          exact K _ _ _ hP hD hS (lv_sub hl [0] rfl)
        · have h := it_n c_22 h
          refine lv_iload_n hx hb dX6_rounds_27 rfl (lv_at hl 0 rfl) ?_
          refine lv_iload_n hx hb dX6_rounds_28 rfl (lv_at hl 2 rfl) ?_
          refine lv_icmp_ge (tgt := 38) hx hb dX6_rounds_29 (by decide) (fun c_23 => ?_) (fun c_23 => ?_)
          · have h := it_p c_23 h
            cases h
            exact K _ _ _ hP hD hS (lv_sub hl [0] rfl)
          · have h := it_n c_23 h
            obtain ⟨x2_24, ex2_24⟩ : ∃ z : Int32, z = y2_6 + 1 := ⟨_, rfl⟩
            have h := nm_s h x2_24 ex2_24
            refine lv_iinc (v := x2_24) (lv' := [(2, .int x2_24), (0, .ref h6), (1, .int i1)]) hx hb dX6_rounds_32 hl (k := 0) rfl (by rw [ex2_24]; rfl) (by decide) rfl (fun ls hl => ?_)
            refine lv_goto (tgt := 20) hx hb dX6_rounds_35 (by decide) ?_
            exact ih _ _ _ _ _ _ _ _ _ _ h _ _ _ hP hD hS (lv_sub hl [0, 1, 2] rfl) K
    obtain ⟨⟨z2_25, guesses6_26, comes6_27, weightAbove6_28, weightBelow6_29⟩, hl_30, h⟩ := bd_s h
    refine L20 FU x2_5 guesses6 comes6 weightAbove6 weightBelow6 _ _ _ _ _ hl_30 _ _ _ hP hD hS (lv_sub hl [0, 1, 2] rfl) (fun H locs ls hP hD hS hl => ?_)
    refine lv_iload_n hx hb dX6_rounds_38 rfl (lv_at hl 0 rfl) ?_
    cases h
    exact hret _ _ _ _ hP hD hS dX6_rounds_39
  · have h := it_p c_4 h
    refine lv_bipush (v := (-2)) hx hb dX6_rounds_15 (by decide) ?_
    cases h
    exact hret _ _ _ _ hP hD hS dX6_rounds_17
def f_X6_guess (i1 : Int32) (thrown6 : Int32) (rows6 : Int32) (guesses6 : Nat → Int32) : Option (Int32 × Int32) :=
  nm (α := Int32) (0) fun thrown6_1 =>
  Option.bind (f_X6_isRow i1 rows6) fun r_2 =>
  if r_2 = 0 then
    some ((-2), thrown6_1)
  else
    gA 40 guesses6 i1 fun v_6 =>
    some (v_6, thrown6_1)
set_option maxHeartbeats 4000000 in
set_option maxRecDepth 100000 in
theorem c_X6_guess (l : Launch) (D : va_G) (cI cJ : ClassId) (h6 labels6a guesses6a comes6a sizes6a words6a told6a behind6a shares6a start6a move6a show6a signs6a many6a bestPath6a nextStart6a nextMove6a nextShow6a : Nat) (thrown6 : Int32) (rows6 : Int32) (labels6 : Nat → Int32) (guesses6 : Nat → Int32) (comes6 : Nat → Int32) (sizes6 : Nat → Int32) (words6 : Nat → Int32) (up6 : Int32) (down6 : Int32) (weightAbove6 : Int64) (weightBelow6 : Int64) (told6 : Nat → Int32) (length6 : Int32) (behind6 : Nat → Int32) (shares6 : Nat → Int64) (over6 : Int64) (start6 : Nat → Int32) (move6 : Nat → Int32) (show6 : Nat → Int32) (signs6 : Nat → Int32) (many6 : Nat → Int32) (bestPath6 : Nat → Int32) (nextStart6 : Nat → Int32) (nextMove6 : Nat → Int32) (nextShow6 : Nat → Int32) (i1 : Int32) (ret9 : Int32) (thrown6z : Int32) (h : f_X6_guess i1 thrown6 rows6 guesses6 = some (ret9, thrown6z)) : CI l D cI cJ yX6_guess wsX6_guess 2 43 [.ref h6, .int i1] (w6 cI cJ h6 labels6a guesses6a comes6a sizes6a words6a told6a behind6a shares6a start6a move6a show6a signs6a many6a bestPath6a nextStart6a nextMove6a nextShow6a thrown6 rows6 labels6 guesses6 comes6 sizes6 words6 up6 down6 weightAbove6 weightBelow6 told6 length6 behind6 shares6 over6 start6 move6 show6 signs6 many6 bestPath6 nextStart6 nextMove6 nextShow6) (w6 cI cJ h6 labels6a guesses6a comes6a sizes6a words6a told6a behind6a shares6a start6a move6a show6a signs6a many6a bestPath6a nextStart6a nextMove6a nextShow6a thrown6z rows6 labels6 guesses6 comes6 sizes6 words6 up6 down6 weightAbove6 weightBelow6 told6 length6 behind6 shares6 over6 start6 move6 show6 signs6 many6 bestPath6 nextStart6 nextMove6 nextShow6) ret9 := by
  refine entI (cc := cX6_guess) (maxL := 2) (by decide) rfl (Nat.le_of_ble_eq_true rfl) ?_
  intro p e s m args below meth c ls A Q X hret
  obtain ⟨hx, hb, hml, hts, hown, hK, hA, hP, hD, hS, hl, hnm⟩ := X
  have hown : s.vm.findClass RX6 = some m.cls := hown
  have hl : lv_has ls 2 [(0, .ref h6), (1, .int i1)] := hl
  have hw1 : (Cond.fieldLink RX6 69 "CountLearnersModel" "thrown" "I").before args s = true := hts _ (by decide +kernel)
  have hinX6 : ∀ w ∈ wsX60, w ∈ wsX6_guess := by decide +kernel
  have hw3 : (Cond.fieldLink RX6 13 "CountLearnersModel" "guesses" "[I").before args s = true := hts _ (by decide +kernel)
  unfold f_X6_guess at h
  refine lv_aload_n hx hb dX6_guess_0 rfl (lv_at hl 0 rfl) ?_
  refine lv_iconst (v := 0) hx hb dX6_guess_1 (by decide) ?_
  refine lv_topi (fun thrown6_1 ethrown6_1 => ?_)
  have h := nm_s h thrown6_1 ethrown6_1
  refine va_put (D := D) (ci := 5) (v := .int thrown6_1) (ty := .int) (C := RX6) (T := TX6) (N := 25) hx hb hts hinX6 tyX6 tyX6_ok nmX6 hown hK.1 hP hD hS 0 rfl rfl 0 (by decide) hw1 (fun _ h9 => h9) rfl (by decide +kernel) rfl rfl (Nat.le_of_ble_eq_true rfl) dX6_guess_2 (fun H locs hP hD hS => ?_)
  have hP : va_P D vwK (w6 cI cJ h6 labels6a guesses6a comes6a sizes6a words6a told6a behind6a shares6a start6a move6a show6a signs6a many6a bestPath6a nextStart6a nextMove6a nextShow6a thrown6_1 rows6 labels6 guesses6 comes6 sizes6 words6 up6 down6 weightAbove6 weightBelow6 told6 length6 behind6 shares6 over6 start6 move6 show6 signs6 many6 bestPath6 nextStart6 nextMove6 nextShow6) H := hP
  have hD : va_D A (w6 cI cJ h6 labels6a guesses6a comes6a sizes6a words6a told6a behind6a shares6a start6a move6a show6a signs6a many6a bestPath6a nextStart6a nextMove6a nextShow6a thrown6_1 rows6 labels6 guesses6 comes6 sizes6 words6 up6 down6 weightAbove6 weightBelow6 told6 length6 behind6 shares6 over6 start6 move6 show6 signs6 many6 bestPath6 nextStart6 nextMove6 nextShow6) := hD
  refine lv_aload_n hx hb dX6_guess_5 rfl (lv_at hl 0 rfl) ?_
  refine lv_iload_n hx hb dX6_guess_6 rfl (lv_at hl 1 rfl) ?_
  obtain ⟨r_2, hc_3, h⟩ := bd_s h
  refine callTi (As := [.int i1]) (rest := []) ⟨hx, hb, hml, hown, hts⟩ (c_X6_isRow l D cI cJ h6 labels6a guesses6a comes6a sizes6a words6a told6a behind6a shares6a start6a move6a show6a signs6a many6a bestPath6a nextStart6a nextMove6a nextShow6a thrown6_1 rows6 labels6 guesses6 comes6 sizes6 words6 up6 down6 weightAbove6 weightBelow6 told6 length6 behind6 shares6 over6 start6 move6 show6 signs6 many6 bestPath6 nextStart6 nextMove6 nextShow6 i1 r_2 hc_3) (cwV 1 hts gX6_guess_X6_isRow rfl rfl rfl (by decide +kernel) ⟨Nat.le_of_ble_eq_true rfl, Nat.le_of_ble_eq_true rfl⟩) hK hP hD hS hA 0 5 rfl rfl rfl rfl hl.1 rfl (Nat.le_of_ble_eq_true rfl) dX6_guess_7 ⟨Nat.zero_le _, Nat.zero_le _⟩ (fun H locs hP hD hS => ?_)
  refine lv_if_eq (tgt := 22) hx hb dX6_guess_10 (by decide) (fun c_4 => ?_) (fun c_4 => ?_)
  · have h := it_p c_4 h
    refine lv_bipush (v := (-2)) hx hb dX6_guess_22 (by decide) ?_
    cases h
    exact hret _ _ _ _ hP hD hS dX6_guess_24
  · have h := it_n c_4 h
    refine lv_aload_n hx hb dX6_guess_13 rfl (lv_at hl 0 rfl) ?_
    refine va_get (D := D) (ci := 5) (v := .ref guesses6a) (C := RX6) (T := TX6) (N := 25) hx hb hts hinX6 hown hK.1 hP 0 rfl rfl 3 (by decide) hw3 (fun _ h9 => h9) rfl dX6_guess_14 ?_
    refine lv_iload_n hx hb dX6_guess_17 rfl (lv_at hl 1 rfl) ?_
    obtain ⟨hi_5, h⟩ := gA_s h
    refine va_iald hx hb hK.1 hP 2 0 rfl rfl hi_5 dX6_guess_18 ?_
    refine lv_topi (fun v_6 ev_6 => ?_)
    have h := h v_6 ev_6
    refine lv_goto (tgt := 24) hx hb dX6_guess_19 (by decide) ?_
    cases h
    exact hret _ _ _ _ hP hD hS dX6_guess_24
def f_X6_text (i1 : Int32) (thrown6 : Int32) (told6 : Nat → Int32) (length6 : Int32) : Option (Int32 × Int32 × (Nat → Int32) × Int32) :=
  nm (α := Int32) (0) fun thrown6_1 =>
  Option.bind (f_X6_within i1 0 7) fun r_2 =>
  if r_2 = 0 then
    some ((-2), thrown6_1, told6, length6)
  else
    if length6 = 60 then
      some ((-3), thrown6_1, told6, length6)
    else
      sI 60 told6 length6 i1 fun told6_7 =>
      nm (α := Int32) ((length6 + 1)) fun length6_8 =>
      some (length6_8, thrown6_1, told6_7, length6_8)
set_option maxHeartbeats 4000000 in
set_option maxRecDepth 100000 in
theorem c_X6_text (l : Launch) (D : va_G) (cI cJ : ClassId) (h6 labels6a guesses6a comes6a sizes6a words6a told6a behind6a shares6a start6a move6a show6a signs6a many6a bestPath6a nextStart6a nextMove6a nextShow6a : Nat) (thrown6 : Int32) (rows6 : Int32) (labels6 : Nat → Int32) (guesses6 : Nat → Int32) (comes6 : Nat → Int32) (sizes6 : Nat → Int32) (words6 : Nat → Int32) (up6 : Int32) (down6 : Int32) (weightAbove6 : Int64) (weightBelow6 : Int64) (told6 : Nat → Int32) (length6 : Int32) (behind6 : Nat → Int32) (shares6 : Nat → Int64) (over6 : Int64) (start6 : Nat → Int32) (move6 : Nat → Int32) (show6 : Nat → Int32) (signs6 : Nat → Int32) (many6 : Nat → Int32) (bestPath6 : Nat → Int32) (nextStart6 : Nat → Int32) (nextMove6 : Nat → Int32) (nextShow6 : Nat → Int32) (i1 : Int32) (ret9 : Int32) (thrown6z : Int32) (told6z : Nat → Int32) (length6z : Int32) (h : f_X6_text i1 thrown6 told6 length6 = some (ret9, thrown6z, told6z, length6z)) : CI l D cI cJ yX6_text wsX6_text 1 22 [.ref h6, .int i1] (w6 cI cJ h6 labels6a guesses6a comes6a sizes6a words6a told6a behind6a shares6a start6a move6a show6a signs6a many6a bestPath6a nextStart6a nextMove6a nextShow6a thrown6 rows6 labels6 guesses6 comes6 sizes6 words6 up6 down6 weightAbove6 weightBelow6 told6 length6 behind6 shares6 over6 start6 move6 show6 signs6 many6 bestPath6 nextStart6 nextMove6 nextShow6) (w6 cI cJ h6 labels6a guesses6a comes6a sizes6a words6a told6a behind6a shares6a start6a move6a show6a signs6a many6a bestPath6a nextStart6a nextMove6a nextShow6a thrown6z rows6 labels6 guesses6 comes6 sizes6 words6 up6 down6 weightAbove6 weightBelow6 told6z length6z behind6 shares6 over6 start6 move6 show6 signs6 many6 bestPath6 nextStart6 nextMove6 nextShow6) ret9 := by
  refine entI (cc := cX6_text) (maxL := 2) (by decide) rfl (Nat.le_of_ble_eq_true rfl) ?_
  intro p e s m args below meth c ls A Q X hret
  obtain ⟨hx, hb, hml, hts, hown, hK, hA, hP, hD, hS, hl, hnm⟩ := X
  have hown : s.vm.findClass RX6 = some m.cls := hown
  have hl : lv_has ls 2 [(0, .ref h6), (1, .int i1)] := hl
  have hw1 : (Cond.fieldLink RX6 69 "CountLearnersModel" "thrown" "I").before args s = true := hts _ (by decide +kernel)
  have hinX6 : ∀ w ∈ wsX60, w ∈ wsX6_text := by decide +kernel
  have hw3 : (Cond.fieldLink RX6 142 "CountLearnersModel" "length" "I").before args s = true := hts _ (by decide +kernel)
  have hw4 : (Cond.fieldLink RX6 32 "CountLearnersModel" "told" "[I").before args s = true := hts _ (by decide +kernel)
  unfold f_X6_text at h
  refine lv_aload_n hx hb dX6_text_0 rfl (lv_at hl 0 rfl) ?_
  refine lv_iconst (v := 0) hx hb dX6_text_1 (by decide) ?_
  refine lv_topi (fun thrown6_1 ethrown6_1 => ?_)
  have h := nm_s h thrown6_1 ethrown6_1
  refine va_put (D := D) (ci := 5) (v := .int thrown6_1) (ty := .int) (C := RX6) (T := TX6) (N := 25) hx hb hts hinX6 tyX6 tyX6_ok nmX6 hown hK.1 hP hD hS 0 rfl rfl 0 (by decide) hw1 (fun _ h9 => h9) rfl (by decide +kernel) rfl rfl (Nat.le_of_ble_eq_true rfl) dX6_text_2 (fun H locs hP hD hS => ?_)
  have hP : va_P D vwK (w6 cI cJ h6 labels6a guesses6a comes6a sizes6a words6a told6a behind6a shares6a start6a move6a show6a signs6a many6a bestPath6a nextStart6a nextMove6a nextShow6a thrown6_1 rows6 labels6 guesses6 comes6 sizes6 words6 up6 down6 weightAbove6 weightBelow6 told6 length6 behind6 shares6 over6 start6 move6 show6 signs6 many6 bestPath6 nextStart6 nextMove6 nextShow6) H := hP
  have hD : va_D A (w6 cI cJ h6 labels6a guesses6a comes6a sizes6a words6a told6a behind6a shares6a start6a move6a show6a signs6a many6a bestPath6a nextStart6a nextMove6a nextShow6a thrown6_1 rows6 labels6 guesses6 comes6 sizes6 words6 up6 down6 weightAbove6 weightBelow6 told6 length6 behind6 shares6 over6 start6 move6 show6 signs6 many6 bestPath6 nextStart6 nextMove6 nextShow6) := hD
  refine lv_iload_n hx hb dX6_text_5 rfl (lv_at hl 1 rfl) ?_
  refine lv_iconst (v := 0) hx hb dX6_text_6 (by decide) ?_
  refine lv_bipush (v := 7) hx hb dX6_text_7 (by decide) ?_
  obtain ⟨r_2, hc_3, h⟩ := bd_s h
  refine callPi (As := [.int i1, .int 0, .int 7]) (rest := []) ⟨hx, hb, hml, hown, hts⟩ (c_X6_within l D cI cJ i1 0 7 r_2 hc_3) (va_cwS 3 hts gX6_text_X6_within rfl rfl rfl (by decide +kernel) ⟨Nat.le_of_ble_eq_true rfl, Nat.le_of_ble_eq_true rfl⟩) hK hP hD hS hA rfl hl.1 rfl (Nat.le_of_ble_eq_true rfl) dX6_text_9 ⟨Nat.zero_le _, Nat.zero_le _⟩ (fun H locs hP hD hS => ?_)
  refine lv_if_ne (tgt := 18) hx hb dX6_text_12 (by decide) (fun c_4 => ?_) (fun c_4 => ?_)
  · have h := it_n c_4 h
    refine lv_aload_n hx hb dX6_text_18 rfl (lv_at hl 0 rfl) ?_
    refine va_get (D := D) (ci := 5) (v := .int length6) (C := RX6) (T := TX6) (N := 25) hx hb hts hinX6 hown hK.1 hP 0 rfl rfl 12 (by decide) hw3 (fun _ h9 => h9) rfl dX6_text_19 ?_
    refine lv_bipush (v := 60) hx hb dX6_text_22 (by decide) ?_
    refine lv_icmp_ne (tgt := 30) hx hb dX6_text_24 (by decide) (fun c_5 => ?_) (fun c_5 => ?_)
    · have h := it_n c_5 h
      refine lv_aload_n hx hb dX6_text_30 rfl (lv_at hl 0 rfl) ?_
      refine va_get (D := D) (ci := 5) (v := .ref told6a) (C := RX6) (T := TX6) (N := 25) hx hb hts hinX6 hown hK.1 hP 0 rfl rfl 11 (by decide) hw4 (fun _ h9 => h9) rfl dX6_text_31 ?_
      refine lv_aload_n hx hb dX6_text_34 rfl (lv_at hl 0 rfl) ?_
      refine va_get (D := D) (ci := 5) (v := .int length6) (C := RX6) (T := TX6) (N := 25) hx hb hts hinX6 hown hK.1 hP 0 rfl rfl 12 (by decide) hw3 (fun _ h9 => h9) rfl dX6_text_35 ?_
      refine lv_iload_n hx hb dX6_text_38 rfl (lv_at hl 1 rfl) ?_
      obtain ⟨hi_6, h⟩ := sI_s h
      refine va_iast hx hb hK.1 hP hD hS 6 0 rfl rfl hi_6 dX6_text_39 (fun H locs hP hD hS => ?_)
      obtain ⟨told6_7, etold6_7⟩ : ∃ z, z = upd told6 (Int32.toNatClampNeg length6) i1 := ⟨_, rfl⟩
      have h := h told6_7 etold6_7
      rw [← etold6_7] at hP hD
      have hP : va_P D vwK (w6 cI cJ h6 labels6a guesses6a comes6a sizes6a words6a told6a behind6a shares6a start6a move6a show6a signs6a many6a bestPath6a nextStart6a nextMove6a nextShow6a thrown6_1 rows6 labels6 guesses6 comes6 sizes6 words6 up6 down6 weightAbove6 weightBelow6 told6_7 length6 behind6 shares6 over6 start6 move6 show6 signs6 many6 bestPath6 nextStart6 nextMove6 nextShow6) H := hP
      have hD : va_D A (w6 cI cJ h6 labels6a guesses6a comes6a sizes6a words6a told6a behind6a shares6a start6a move6a show6a signs6a many6a bestPath6a nextStart6a nextMove6a nextShow6a thrown6_1 rows6 labels6 guesses6 comes6 sizes6 words6 up6 down6 weightAbove6 weightBelow6 told6_7 length6 behind6 shares6 over6 start6 move6 show6 signs6 many6 bestPath6 nextStart6 nextMove6 nextShow6) := hD
      refine lv_aload_n hx hb dX6_text_40 rfl (lv_at hl 0 rfl) ?_
      refine lv_dup hx hb dX6_text_41 rfl ?_
      refine va_get (D := D) (ci := 5) (v := .int length6) (C := RX6) (T := TX6) (N := 25) hx hb hts hinX6 hown hK.1 hP 0 rfl rfl 12 (by decide) hw3 (fun _ h9 => h9) rfl dX6_text_42 ?_
      refine lv_iconst (v := 1) hx hb dX6_text_45 (by decide) ?_
      refine lv_iadd hx hb dX6_text_46 ?_
      refine lv_topi (fun length6_8 elength6_8 => ?_)
      have h := nm_s h length6_8 elength6_8
      refine va_put (D := D) (ci := 5) (v := .int length6_8) (ty := .int) (C := RX6) (T := TX6) (N := 25) hx hb hts hinX6 tyX6 tyX6_ok nmX6 hown hK.1 hP hD hS 0 rfl rfl 12 (by decide) hw3 (fun _ h9 => h9) rfl (by decide +kernel) rfl rfl (Nat.le_of_ble_eq_true rfl) dX6_text_47 (fun H locs hP hD hS => ?_)
      have hP : va_P D vwK (w6 cI cJ h6 labels6a guesses6a comes6a sizes6a words6a told6a behind6a shares6a start6a move6a show6a signs6a many6a bestPath6a nextStart6a nextMove6a nextShow6a thrown6_1 rows6 labels6 guesses6 comes6 sizes6 words6 up6 down6 weightAbove6 weightBelow6 told6_7 length6_8 behind6 shares6 over6 start6 move6 show6 signs6 many6 bestPath6 nextStart6 nextMove6 nextShow6) H := hP
      have hD : va_D A (w6 cI cJ h6 labels6a guesses6a comes6a sizes6a words6a told6a behind6a shares6a start6a move6a show6a signs6a many6a bestPath6a nextStart6a nextMove6a nextShow6a thrown6_1 rows6 labels6 guesses6 comes6 sizes6 words6 up6 down6 weightAbove6 weightBelow6 told6_7 length6_8 behind6 shares6 over6 start6 move6 show6 signs6 many6 bestPath6 nextStart6 nextMove6 nextShow6) := hD
      refine lv_aload_n hx hb dX6_text_50 rfl (lv_at hl 0 rfl) ?_
      refine va_get (D := D) (ci := 5) (v := .int length6_8) (C := RX6) (T := TX6) (N := 25) hx hb hts hinX6 hown hK.1 hP 0 rfl rfl 12 (by decide) hw3 (fun _ h9 => h9) rfl dX6_text_51 ?_
      cases h
      exact hret _ _ _ _ hP hD hS dX6_text_54
    · have h := it_p c_5 h
      refine lv_bipush (v := (-3)) hx hb dX6_text_27 (by decide) ?_
      cases h
      exact hret _ _ _ _ hP hD hS dX6_text_29
  · have h := it_p c_4 h
    refine lv_bipush (v := (-2)) hx hb dX6_text_15 (by decide) ?_
    cases h
    exact hret _ _ _ _ hP hD hS dX6_text_17
def f_X6_count_L2 : Nat → Int32 → (Nat → Int32) → Option (Int32 × (Nat → Int32))
  | 0, _, _ => none
  | n + 1, y3_2, behind6_3 =>
  if 8 ≤ y3_2 then
    some (y3_2, behind6_3)
  else
    sI 8 behind6_3 y3_2 0 fun behind6_8 =>
    nm (α := Int32) (y3_2 + 1) fun x3_9 =>
    f_X6_count_L2 n x3_9 behind6_8
def f_X6_count_L35 (i1 : Int32) (i2 : Int32) (told6 : Nat → Int32) (length6 : Int32) : Nat → Int32 → Int32 → (Nat → Int32) → Option (Int32 × Int32 × (Nat → Int32))
  | 0, _, _, _ => none
  | n + 1, y4_16, y3_17, behind6_18 =>
  if length6 ≤ y4_16 then
    some (y4_16, y3_17, behind6_18)
  else
    gA 60 told6 (y4_16 - 1) fun v_24 =>
    if v_24 = i2 then
      if i1 = (-1) then
        gA 60 told6 y4_16 fun v_29 =>
        gA 8 behind6_18 v_29 fun v_31 =>
        sI 8 behind6_18 v_29 (v_31 + 1) fun behind6_33 =>
        nm (α := Int32) (y3_17 + 1) fun x3_34 =>
        nm (α := Int32) (y4_16 + 1) fun x4_35 =>
        f_X6_count_L35 i1 i2 told6 length6 n x4_35 x3_34 behind6_33
      else
        gA 60 told6 (y4_16 - 2) fun v_37 =>
        if v_37 = i1 then
          gA 60 told6 y4_16 fun v_41 =>
          gA 8 behind6_18 v_41 fun v_43 =>
          sI 8 behind6_18 v_41 (v_43 + 1) fun behind6_45 =>
          nm (α := Int32) (y3_17 + 1) fun x3_46 =>
          nm (α := Int32) (y4_16 + 1) fun x4_47 =>
          f_X6_count_L35 i1 i2 told6 length6 n x4_47 x3_46 behind6_45
        else
          nm (α := Int32) (y4_16 + 1) fun x4_39 =>
          f_X6_count_L35 i1 i2 told6 length6 n x4_39 y3_17 behind6_18
    else
      nm (α := Int32) (y4_16 + 1) fun x4_26 =>
      f_X6_count_L35 i1 i2 told6 length6 n x4_26 y3_17 behind6_18
def f_X6_count (i1 : Int32) (i2 : Int32) (told6 : Nat → Int32) (length6 : Int32) (behind6 : Nat → Int32) : Option (Int32 × (Nat → Int32)) :=
  nm (α := Int32) (0) fun x3_1 =>
  Option.bind (f_X6_count_L2 FU x3_1 behind6) fun (z3_10, behind6_11) =>
  nm (α := Int32) (0) fun x3_13 =>
  if i1 = (-1) then
    nm (α := Int32) (1) fun x4_52 =>
    Option.bind (f_X6_count_L35 i1 i2 told6 length6 FU x4_52 x3_13 behind6_11) fun (z4_85, z3_86, behind6_87) =>
    some (z3_86, behind6_87)
  else
    nm (α := Int32) (2) fun x4_15 =>
    Option.bind (f_X6_count_L35 i1 i2 told6 length6 FU x4_15 x3_13 behind6_11) fun (z4_48, z3_49, behind6_50) =>
    some (z3_49, behind6_50)
set_option maxHeartbeats 4000000 in
set_option maxRecDepth 100000 in
theorem c_X6_count (l : Launch) (D : va_G) (cI cJ : ClassId) (h6 labels6a guesses6a comes6a sizes6a words6a told6a behind6a shares6a start6a move6a show6a signs6a many6a bestPath6a nextStart6a nextMove6a nextShow6a : Nat) (thrown6 : Int32) (rows6 : Int32) (labels6 : Nat → Int32) (guesses6 : Nat → Int32) (comes6 : Nat → Int32) (sizes6 : Nat → Int32) (words6 : Nat → Int32) (up6 : Int32) (down6 : Int32) (weightAbove6 : Int64) (weightBelow6 : Int64) (told6 : Nat → Int32) (length6 : Int32) (behind6 : Nat → Int32) (shares6 : Nat → Int64) (over6 : Int64) (start6 : Nat → Int32) (move6 : Nat → Int32) (show6 : Nat → Int32) (signs6 : Nat → Int32) (many6 : Nat → Int32) (bestPath6 : Nat → Int32) (nextStart6 : Nat → Int32) (nextMove6 : Nat → Int32) (nextShow6 : Nat → Int32) (i1 : Int32) (i2 : Int32) (ret9 : Int32) (behind6z : Nat → Int32) (h : f_X6_count i1 i2 told6 length6 behind6 = some (ret9, behind6z)) : CI l D cI cJ yX6_count wsX6_count 0 0 [.ref h6, .int i1, .int i2] (w6 cI cJ h6 labels6a guesses6a comes6a sizes6a words6a told6a behind6a shares6a start6a move6a show6a signs6a many6a bestPath6a nextStart6a nextMove6a nextShow6a thrown6 rows6 labels6 guesses6 comes6 sizes6 words6 up6 down6 weightAbove6 weightBelow6 told6 length6 behind6 shares6 over6 start6 move6 show6 signs6 many6 bestPath6 nextStart6 nextMove6 nextShow6) (w6 cI cJ h6 labels6a guesses6a comes6a sizes6a words6a told6a behind6a shares6a start6a move6a show6a signs6a many6a bestPath6a nextStart6a nextMove6a nextShow6a thrown6 rows6 labels6 guesses6 comes6 sizes6 words6 up6 down6 weightAbove6 weightBelow6 told6 length6 behind6z shares6 over6 start6 move6 show6 signs6 many6 bestPath6 nextStart6 nextMove6 nextShow6) ret9 := by
  refine entI (cc := cX6_count) (maxL := 5) (by decide) rfl (Nat.le_of_ble_eq_true rfl) ?_
  intro p e s m args below meth c ls A Q X hret
  obtain ⟨hx, hb, hml, hts, hown, hK, hA, hP, hD, hS, hl, hnm⟩ := X
  have hown : s.vm.findClass RX6 = some m.cls := hown
  have hl : lv_has ls 5 [(0, .ref h6), (1, .int i1), (2, .int i2)] := hl
  have hw1 : (Cond.fieldLink RX6 35 "CountLearnersModel" "behind" "[I").before args s = true := hts _ (by decide +kernel)
  have hinX6 : ∀ w ∈ wsX60, w ∈ wsX6_count := by decide +kernel
  have hw3 : (Cond.fieldLink RX6 142 "CountLearnersModel" "length" "I").before args s = true := hts _ (by decide +kernel)
  have hw4 : (Cond.fieldLink RX6 32 "CountLearnersModel" "told" "[I").before args s = true := hts _ (by decide +kernel)
  unfold f_X6_count at h
  refine lv_iconst (v := 0) hx hb dX6_count_0 (by decide) ?_
  refine lv_topi (fun x3_1 ex3_1 => ?_)
  have h := nm_s h x3_1 ex3_1
  refine lv_istore_n (lv' := [(3, .int x3_1), (0, .ref h6), (1, .int i1), (2, .int i2)]) hx hb dX6_count_1 rfl hl (by decide) rfl (fun ls hl => ?_)
  have L2 : ∀ (n : Nat) (y3_2 : Int32) (behind6_3 : Nat → Int32) (z3_4 : Int32) (behind6_5 : Nat → Int32), f_X6_count_L2 n y3_2 behind6_3 = some (z3_4, behind6_5) → ∀ (H : Heap) (locs : List Loc) (ls : Array Slot), va_P D vwK (w6 cI cJ h6 labels6a guesses6a comes6a sizes6a words6a told6a behind6a shares6a start6a move6a show6a signs6a many6a bestPath6a nextStart6a nextMove6a nextShow6a thrown6 rows6 labels6 guesses6 comes6 sizes6 words6 up6 down6 weightAbove6 weightBelow6 told6 length6 behind6_3 shares6 over6 start6 move6 show6 signs6 many6 bestPath6 nextStart6 nextMove6 nextShow6) H → va_D A (w6 cI cJ h6 labels6a guesses6a comes6a sizes6a words6a told6a behind6a shares6a start6a move6a show6a signs6a many6a bestPath6a nextStart6a nextMove6a nextShow6a thrown6 rows6 labels6 guesses6 comes6 sizes6 words6 up6 down6 weightAbove6 weightBelow6 told6 length6 behind6_3 shares6 over6 start6 move6 show6 signs6 many6 bestPath6 nextStart6 nextMove6 nextShow6) → va_S A s.heap H locs → lv_has ls 5 [(3, .int y3_2), (0, .ref h6), (1, .int i1), (2, .int i2)] → (∀ (H : Heap) (locs : List Loc) (ls : Array Slot), va_P D vwK (w6 cI cJ h6 labels6a guesses6a comes6a sizes6a words6a told6a behind6a shares6a start6a move6a show6a signs6a many6a bestPath6a nextStart6a nextMove6a nextShow6a thrown6 rows6 labels6 guesses6 comes6 sizes6 words6 up6 down6 weightAbove6 weightBelow6 told6 length6 behind6_5 shares6 over6 start6 move6 show6 signs6 many6 bestPath6 nextStart6 nextMove6 nextShow6) H → va_D A (w6 cI cJ h6 labels6a guesses6a comes6a sizes6a words6a told6a behind6a shares6a start6a move6a show6a signs6a many6a bestPath6a nextStart6a nextMove6a nextShow6a thrown6 rows6 labels6 guesses6 comes6 sizes6 words6 up6 down6 weightAbove6 weightBelow6 told6 length6 behind6_5 shares6 over6 start6 move6 show6 signs6 many6 bestPath6 nextStart6 nextMove6 nextShow6) → va_S A s.heap H locs → lv_has ls 5 [(0, .ref h6), (1, .int i1), (2, .int i2)] → W p l e (rmOf 0 0) s m args below meth c H locs 0 0 Q (F0 m 21 ls [])) → W p l e (rmOf 0 0) s m args below meth c H locs 0 0 Q (F0 m 2 ls []) := by
    intro n
    induction n with
    | zero => intro y3_2 behind6_3 z3_4 behind6_5 h; rw [f_X6_count_L2.eq_1] at h; cases h
    | succ n ih =>
      intro y3_2 behind6_3 z3_4 behind6_5 h H locs ls hP hD hS hl K
      rw [f_X6_count_L2.eq_2] at h
      refine lv_iload_n hx hb dX6_count_2 rfl (lv_at hl 0 rfl) ?_
      refine lv_bipush (v := 8) hx hb dX6_count_3 (by decide) ?_
      refine lv_icmp_ge (tgt := 21) hx hb dX6_count_5 (by decide) (fun c_6 => ?_) (fun c_6 => ?_)
      · have h := it_p c_6 h
        cases h
        exact K _ _ _ hP hD hS (lv_sub hl [1, 2, 3] rfl)
      · have h := it_n c_6 h
        refine lv_aload_n hx hb dX6_count_8 rfl (lv_at hl 1 rfl) ?_
        refine va_get (D := D) (ci := 5) (v := .ref behind6a) (C := RX6) (T := TX6) (N := 25) hx hb hts hinX6 hown hK.1 hP 0 rfl rfl 13 (by decide) hw1 (fun _ h9 => h9) rfl dX6_count_9 ?_
        refine lv_iload_n hx hb dX6_count_12 rfl (lv_at hl 0 rfl) ?_
        refine lv_iconst (v := 0) hx hb dX6_count_13 (by decide) ?_
        obtain ⟨hi_7, h⟩ := sI_s h
        refine va_iast hx hb hK.1 hP hD hS 7 0 rfl rfl hi_7 dX6_count_14 (fun H locs hP hD hS => ?_)
        obtain ⟨behind6_8, ebehind6_8⟩ : ∃ z, z = upd behind6_3 (Int32.toNatClampNeg y3_2) 0 := ⟨_, rfl⟩
        have h := h behind6_8 ebehind6_8
        rw [← ebehind6_8] at hP hD
        have hP : va_P D vwK (w6 cI cJ h6 labels6a guesses6a comes6a sizes6a words6a told6a behind6a shares6a start6a move6a show6a signs6a many6a bestPath6a nextStart6a nextMove6a nextShow6a thrown6 rows6 labels6 guesses6 comes6 sizes6 words6 up6 down6 weightAbove6 weightBelow6 told6 length6 behind6_8 shares6 over6 start6 move6 show6 signs6 many6 bestPath6 nextStart6 nextMove6 nextShow6) H := hP
        have hD : va_D A (w6 cI cJ h6 labels6a guesses6a comes6a sizes6a words6a told6a behind6a shares6a start6a move6a show6a signs6a many6a bestPath6a nextStart6a nextMove6a nextShow6a thrown6 rows6 labels6 guesses6 comes6 sizes6 words6 up6 down6 weightAbove6 weightBelow6 told6 length6 behind6_8 shares6 over6 start6 move6 show6 signs6 many6 bestPath6 nextStart6 nextMove6 nextShow6) := hD
        obtain ⟨x3_9, ex3_9⟩ : ∃ z : Int32, z = y3_2 + 1 := ⟨_, rfl⟩
        have h := nm_s h x3_9 ex3_9
        refine lv_iinc (v := x3_9) (lv' := [(3, .int x3_9), (0, .ref h6), (1, .int i1), (2, .int i2)]) hx hb dX6_count_15 hl (k := 0) rfl (by rw [ex3_9]; rfl) (by decide) rfl (fun ls hl => ?_)
        refine lv_goto (tgt := 2) hx hb dX6_count_18 (by decide) ?_
        exact ih _ _ _ _ h _ _ _ hP hD hS (lv_sub hl [0, 1, 2, 3] rfl) K
  obtain ⟨⟨z3_10, behind6_11⟩, hl_12, h⟩ := bd_s h
  refine L2 FU x3_1 behind6 _ _ hl_12 _ _ _ hP hD hS (lv_sub hl [0, 1, 2, 3] rfl) (fun H locs ls hP hD hS hl => ?_)
  refine lv_iconst (v := 0) hx hb dX6_count_21 (by decide) ?_
  refine lv_topi (fun x3_13 ex3_13 => ?_)
  have h := nm_s h x3_13 ex3_13
  refine lv_istore_n (lv' := [(3, .int x3_13), (0, .ref h6), (1, .int i1), (2, .int i2)]) hx hb dX6_count_22 rfl hl (by decide) rfl (fun ls hl => ?_)
  refine lv_iload_n hx hb dX6_count_23 rfl (lv_at hl 2 rfl) ?_
  refine lv_iconst (v := (-1)) hx hb dX6_count_24 (by decide) ?_
  refine lv_icmp_ne (tgt := 32) hx hb dX6_count_25 (by decide) (fun c_14 => ?_) (fun c_14 => ?_)
  · have h := it_n c_14 h
    refine lv_iconst (v := 2) hx hb dX6_count_32 (by decide) ?_
    refine lv_topi (fun x4_15 ex4_15 => ?_)
    have h := nm_s h x4_15 ex4_15
    refine lv_istore (lv' := [(4, .int x4_15), (3, .int x3_13), (0, .ref h6), (1, .int i1), (2, .int i2)]) hx hb dX6_count_33 hl (by decide) rfl (fun ls hl => ?_)
    have L35 : ∀ (n : Nat) (y4_16 : Int32) (y3_17 : Int32) (behind6_18 : Nat → Int32) (z4_19 : Int32) (z3_20 : Int32) (behind6_21 : Nat → Int32), f_X6_count_L35 i1 i2 told6 length6 n y4_16 y3_17 behind6_18 = some (z4_19, z3_20, behind6_21) → ∀ (H : Heap) (locs : List Loc) (ls : Array Slot), va_P D vwK (w6 cI cJ h6 labels6a guesses6a comes6a sizes6a words6a told6a behind6a shares6a start6a move6a show6a signs6a many6a bestPath6a nextStart6a nextMove6a nextShow6a thrown6 rows6 labels6 guesses6 comes6 sizes6 words6 up6 down6 weightAbove6 weightBelow6 told6 length6 behind6_18 shares6 over6 start6 move6 show6 signs6 many6 bestPath6 nextStart6 nextMove6 nextShow6) H → va_D A (w6 cI cJ h6 labels6a guesses6a comes6a sizes6a words6a told6a behind6a shares6a start6a move6a show6a signs6a many6a bestPath6a nextStart6a nextMove6a nextShow6a thrown6 rows6 labels6 guesses6 comes6 sizes6 words6 up6 down6 weightAbove6 weightBelow6 told6 length6 behind6_18 shares6 over6 start6 move6 show6 signs6 many6 bestPath6 nextStart6 nextMove6 nextShow6) → va_S A s.heap H locs → lv_has ls 5 [(4, .int y4_16), (3, .int y3_17), (0, .ref h6), (1, .int i1), (2, .int i2)] → (∀ (H : Heap) (locs : List Loc) (ls : Array Slot), va_P D vwK (w6 cI cJ h6 labels6a guesses6a comes6a sizes6a words6a told6a behind6a shares6a start6a move6a show6a signs6a many6a bestPath6a nextStart6a nextMove6a nextShow6a thrown6 rows6 labels6 guesses6 comes6 sizes6 words6 up6 down6 weightAbove6 weightBelow6 told6 length6 behind6_21 shares6 over6 start6 move6 show6 signs6 many6 bestPath6 nextStart6 nextMove6 nextShow6) H → va_D A (w6 cI cJ h6 labels6a guesses6a comes6a sizes6a words6a told6a behind6a shares6a start6a move6a show6a signs6a many6a bestPath6a nextStart6a nextMove6a nextShow6a thrown6 rows6 labels6 guesses6 comes6 sizes6 words6 up6 down6 weightAbove6 weightBelow6 told6 length6 behind6_21 shares6 over6 start6 move6 show6 signs6 many6 bestPath6 nextStart6 nextMove6 nextShow6) → va_S A s.heap H locs → lv_has ls 5 [(3, .int z3_20)] → W p l e (rmOf 0 0) s m args below meth c H locs 0 0 Q (F0 m 100 ls [])) → W p l e (rmOf 0 0) s m args below meth c H locs 0 0 Q (F0 m 35 ls []) := by
      intro n
      induction n with
      | zero => intro y4_16 y3_17 behind6_18 z4_19 z3_20 behind6_21 h; rw [f_X6_count_L35.eq_1] at h; cases h
      | succ n ih =>
        intro y4_16 y3_17 behind6_18 z4_19 z3_20 behind6_21 h H locs ls hP hD hS hl K
        rw [f_X6_count_L35.eq_2] at h
        refine lv_iload hx hb dX6_count_35 (lv_at hl 0 rfl) ?_
        refine lv_aload_n hx hb dX6_count_37 rfl (lv_at hl 2 rfl) ?_
        refine va_get (D := D) (ci := 5) (v := .int length6) (C := RX6) (T := TX6) (N := 25) hx hb hts hinX6 hown hK.1 hP 0 rfl rfl 12 (by decide) hw3 (fun _ h9 => h9) rfl dX6_count_38 ?_
        refine lv_icmp_ge (tgt := 100) hx hb dX6_count_41 (by decide) (fun c_22 => ?_) (fun c_22 => ?_)
        · have h := it_p c_22 h
          cases h
          exact K _ _ _ hP hD hS (lv_sub hl [1] rfl)
        · have h := it_n c_22 h
          refine lv_aload_n hx hb dX6_count_44 rfl (lv_at hl 2 rfl) ?_
          refine va_get (D := D) (ci := 5) (v := .ref told6a) (C := RX6) (T := TX6) (N := 25) hx hb hts hinX6 hown hK.1 hP 0 rfl rfl 11 (by decide) hw4 (fun _ h9 => h9) rfl dX6_count_45 ?_
          refine lv_iload hx hb dX6_count_48 (lv_at hl 0 rfl) ?_
          refine lv_iconst (v := 1) hx hb dX6_count_50 (by decide) ?_
          refine lv_isub hx hb dX6_count_51 ?_
          obtain ⟨hi_23, h⟩ := gA_s h
          refine va_iald hx hb hK.1 hP 6 0 rfl rfl hi_23 dX6_count_52 ?_
          refine lv_topi (fun v_24 ev_24 => ?_)
          have h := h v_24 ev_24
          refine lv_iload_n hx hb dX6_count_53 rfl (lv_at hl 4 rfl) ?_
          refine lv_icmp_ne (tgt := 94) hx hb dX6_count_54 (by decide) (fun c_25 => ?_) (fun c_25 => ?_)
          · have h := it_n c_25 h
            obtain ⟨x4_26, ex4_26⟩ : ∃ z : Int32, z = y4_16 + 1 := ⟨_, rfl⟩
            have h := nm_s h x4_26 ex4_26
            refine lv_iinc (v := x4_26) (lv' := [(4, .int x4_26), (3, .int y3_17), (0, .ref h6), (1, .int i1), (2, .int i2)]) hx hb dX6_count_94 hl (k := 0) rfl (by rw [ex4_26]; rfl) (by decide) rfl (fun ls hl => ?_)
            refine lv_goto (tgt := 35) hx hb dX6_count_97 (by decide) ?_
            exact ih _ _ _ _ _ _ h _ _ _ hP hD hS (lv_sub hl [0, 1, 2, 3, 4] rfl) K
          · have h := it_p c_25 h
            refine lv_iload_n hx hb dX6_count_57 rfl (lv_at hl 3 rfl) ?_
            refine lv_iconst (v := (-1)) hx hb dX6_count_58 (by decide) ?_
            refine lv_icmp_eq (tgt := 75) hx hb dX6_count_59 (by decide) (fun c_27 => ?_) (fun c_27 => ?_)
            · have h := it_p c_27 h
              refine lv_aload_n hx hb dX6_count_75 rfl (lv_at hl 2 rfl) ?_
              refine va_get (D := D) (ci := 5) (v := .ref behind6a) (C := RX6) (T := TX6) (N := 25) hx hb hts hinX6 hown hK.1 hP 0 rfl rfl 13 (by decide) hw1 (fun _ h9 => h9) rfl dX6_count_76 ?_
              refine lv_aload_n hx hb dX6_count_79 rfl (lv_at hl 2 rfl) ?_
              refine va_get (D := D) (ci := 5) (v := .ref told6a) (C := RX6) (T := TX6) (N := 25) hx hb hts hinX6 hown hK.1 hP 0 rfl rfl 11 (by decide) hw4 (fun _ h9 => h9) rfl dX6_count_80 ?_
              refine lv_iload hx hb dX6_count_83 (lv_at hl 0 rfl) ?_
              obtain ⟨hi_28, h⟩ := gA_s h
              refine va_iald hx hb hK.1 hP 6 0 rfl rfl hi_28 dX6_count_85 ?_
              refine lv_topi (fun v_29 ev_29 => ?_)
              have h := h v_29 ev_29
              refine lv_dup2_11 hx hb dX6_count_86 rfl rfl ?_
              obtain ⟨hi_30, h⟩ := gA_s h
              refine va_iald hx hb hK.1 hP 7 0 rfl rfl hi_30 dX6_count_87 ?_
              refine lv_topi (fun v_31 ev_31 => ?_)
              have h := h v_31 ev_31
              refine lv_iconst (v := 1) hx hb dX6_count_88 (by decide) ?_
              refine lv_iadd hx hb dX6_count_89 ?_
              obtain ⟨hi_32, h⟩ := sI_s h
              refine va_iast hx hb hK.1 hP hD hS 7 0 rfl rfl hi_32 dX6_count_90 (fun H locs hP hD hS => ?_)
              obtain ⟨behind6_33, ebehind6_33⟩ : ∃ z, z = upd behind6_18 (Int32.toNatClampNeg v_29) (v_31 + 1) := ⟨_, rfl⟩
              have h := h behind6_33 ebehind6_33
              rw [← ebehind6_33] at hP hD
              have hP : va_P D vwK (w6 cI cJ h6 labels6a guesses6a comes6a sizes6a words6a told6a behind6a shares6a start6a move6a show6a signs6a many6a bestPath6a nextStart6a nextMove6a nextShow6a thrown6 rows6 labels6 guesses6 comes6 sizes6 words6 up6 down6 weightAbove6 weightBelow6 told6 length6 behind6_33 shares6 over6 start6 move6 show6 signs6 many6 bestPath6 nextStart6 nextMove6 nextShow6) H := hP
              have hD : va_D A (w6 cI cJ h6 labels6a guesses6a comes6a sizes6a words6a told6a behind6a shares6a start6a move6a show6a signs6a many6a bestPath6a nextStart6a nextMove6a nextShow6a thrown6 rows6 labels6 guesses6 comes6 sizes6 words6 up6 down6 weightAbove6 weightBelow6 told6 length6 behind6_33 shares6 over6 start6 move6 show6 signs6 many6 bestPath6 nextStart6 nextMove6 nextShow6) := hD
              obtain ⟨x3_34, ex3_34⟩ : ∃ z : Int32, z = y3_17 + 1 := ⟨_, rfl⟩
              have h := nm_s h x3_34 ex3_34
              refine lv_iinc (v := x3_34) (lv' := [(3, .int x3_34), (4, .int y4_16), (0, .ref h6), (1, .int i1), (2, .int i2)]) hx hb dX6_count_91 hl (k := 1) rfl (by rw [ex3_34]; rfl) (by decide) rfl (fun ls hl => ?_)
              obtain ⟨x4_35, ex4_35⟩ : ∃ z : Int32, z = y4_16 + 1 := ⟨_, rfl⟩
              have h := nm_s h x4_35 ex4_35
              refine lv_iinc (v := x4_35) (lv' := [(4, .int x4_35), (3, .int x3_34), (0, .ref h6), (1, .int i1), (2, .int i2)]) hx hb dX6_count_94 hl (k := 1) rfl (by rw [ex4_35]; rfl) (by decide) rfl (fun ls hl => ?_)
              refine lv_goto (tgt := 35) hx hb dX6_count_97 (by decide) ?_
              exact ih _ _ _ _ _ _ h _ _ _ hP hD hS (lv_sub hl [0, 1, 2, 3, 4] rfl) K
            · have h := it_n c_27 h
              refine lv_aload_n hx hb dX6_count_62 rfl (lv_at hl 2 rfl) ?_
              refine va_get (D := D) (ci := 5) (v := .ref told6a) (C := RX6) (T := TX6) (N := 25) hx hb hts hinX6 hown hK.1 hP 0 rfl rfl 11 (by decide) hw4 (fun _ h9 => h9) rfl dX6_count_63 ?_
              refine lv_iload hx hb dX6_count_66 (lv_at hl 0 rfl) ?_
              refine lv_iconst (v := 2) hx hb dX6_count_68 (by decide) ?_
              refine lv_isub hx hb dX6_count_69 ?_
              obtain ⟨hi_36, h⟩ := gA_s h
              refine va_iald hx hb hK.1 hP 6 0 rfl rfl hi_36 dX6_count_70 ?_
              refine lv_topi (fun v_37 ev_37 => ?_)
              have h := h v_37 ev_37
              refine lv_iload_n hx hb dX6_count_71 rfl (lv_at hl 3 rfl) ?_
              refine lv_icmp_ne (tgt := 94) hx hb dX6_count_72 (by decide) (fun c_38 => ?_) (fun c_38 => ?_)
              · have h := it_n c_38 h
                obtain ⟨x4_39, ex4_39⟩ : ∃ z : Int32, z = y4_16 + 1 := ⟨_, rfl⟩
                have h := nm_s h x4_39 ex4_39
                refine lv_iinc (v := x4_39) (lv' := [(4, .int x4_39), (3, .int y3_17), (0, .ref h6), (1, .int i1), (2, .int i2)]) hx hb dX6_count_94 hl (k := 0) rfl (by rw [ex4_39]; rfl) (by decide) rfl (fun ls hl => ?_)
                refine lv_goto (tgt := 35) hx hb dX6_count_97 (by decide) ?_
                exact ih _ _ _ _ _ _ h _ _ _ hP hD hS (lv_sub hl [0, 1, 2, 3, 4] rfl) K
              · have h := it_p c_38 h
                refine lv_aload_n hx hb dX6_count_75 rfl (lv_at hl 2 rfl) ?_
                refine va_get (D := D) (ci := 5) (v := .ref behind6a) (C := RX6) (T := TX6) (N := 25) hx hb hts hinX6 hown hK.1 hP 0 rfl rfl 13 (by decide) hw1 (fun _ h9 => h9) rfl dX6_count_76 ?_
                refine lv_aload_n hx hb dX6_count_79 rfl (lv_at hl 2 rfl) ?_
                refine va_get (D := D) (ci := 5) (v := .ref told6a) (C := RX6) (T := TX6) (N := 25) hx hb hts hinX6 hown hK.1 hP 0 rfl rfl 11 (by decide) hw4 (fun _ h9 => h9) rfl dX6_count_80 ?_
                refine lv_iload hx hb dX6_count_83 (lv_at hl 0 rfl) ?_
                obtain ⟨hi_40, h⟩ := gA_s h
                refine va_iald hx hb hK.1 hP 6 0 rfl rfl hi_40 dX6_count_85 ?_
                refine lv_topi (fun v_41 ev_41 => ?_)
                have h := h v_41 ev_41
                refine lv_dup2_11 hx hb dX6_count_86 rfl rfl ?_
                obtain ⟨hi_42, h⟩ := gA_s h
                refine va_iald hx hb hK.1 hP 7 0 rfl rfl hi_42 dX6_count_87 ?_
                refine lv_topi (fun v_43 ev_43 => ?_)
                have h := h v_43 ev_43
                refine lv_iconst (v := 1) hx hb dX6_count_88 (by decide) ?_
                refine lv_iadd hx hb dX6_count_89 ?_
                obtain ⟨hi_44, h⟩ := sI_s h
                refine va_iast hx hb hK.1 hP hD hS 7 0 rfl rfl hi_44 dX6_count_90 (fun H locs hP hD hS => ?_)
                obtain ⟨behind6_45, ebehind6_45⟩ : ∃ z, z = upd behind6_18 (Int32.toNatClampNeg v_41) (v_43 + 1) := ⟨_, rfl⟩
                have h := h behind6_45 ebehind6_45
                rw [← ebehind6_45] at hP hD
                have hP : va_P D vwK (w6 cI cJ h6 labels6a guesses6a comes6a sizes6a words6a told6a behind6a shares6a start6a move6a show6a signs6a many6a bestPath6a nextStart6a nextMove6a nextShow6a thrown6 rows6 labels6 guesses6 comes6 sizes6 words6 up6 down6 weightAbove6 weightBelow6 told6 length6 behind6_45 shares6 over6 start6 move6 show6 signs6 many6 bestPath6 nextStart6 nextMove6 nextShow6) H := hP
                have hD : va_D A (w6 cI cJ h6 labels6a guesses6a comes6a sizes6a words6a told6a behind6a shares6a start6a move6a show6a signs6a many6a bestPath6a nextStart6a nextMove6a nextShow6a thrown6 rows6 labels6 guesses6 comes6 sizes6 words6 up6 down6 weightAbove6 weightBelow6 told6 length6 behind6_45 shares6 over6 start6 move6 show6 signs6 many6 bestPath6 nextStart6 nextMove6 nextShow6) := hD
                obtain ⟨x3_46, ex3_46⟩ : ∃ z : Int32, z = y3_17 + 1 := ⟨_, rfl⟩
                have h := nm_s h x3_46 ex3_46
                refine lv_iinc (v := x3_46) (lv' := [(3, .int x3_46), (4, .int y4_16), (0, .ref h6), (1, .int i1), (2, .int i2)]) hx hb dX6_count_91 hl (k := 1) rfl (by rw [ex3_46]; rfl) (by decide) rfl (fun ls hl => ?_)
                obtain ⟨x4_47, ex4_47⟩ : ∃ z : Int32, z = y4_16 + 1 := ⟨_, rfl⟩
                have h := nm_s h x4_47 ex4_47
                refine lv_iinc (v := x4_47) (lv' := [(4, .int x4_47), (3, .int x3_46), (0, .ref h6), (1, .int i1), (2, .int i2)]) hx hb dX6_count_94 hl (k := 1) rfl (by rw [ex4_47]; rfl) (by decide) rfl (fun ls hl => ?_)
                refine lv_goto (tgt := 35) hx hb dX6_count_97 (by decide) ?_
                exact ih _ _ _ _ _ _ h _ _ _ hP hD hS (lv_sub hl [0, 1, 2, 3, 4] rfl) K
    obtain ⟨⟨z4_48, z3_49, behind6_50⟩, hl_51, h⟩ := bd_s h
    refine L35 FU x4_15 x3_13 behind6_11 _ _ _ hl_51 _ _ _ hP hD hS (lv_sub hl [0, 1, 2, 3, 4] rfl) (fun H locs ls hP hD hS hl => ?_)
    refine lv_iload_n hx hb dX6_count_100 rfl (lv_at hl 0 rfl) ?_
    cases h
    exact hret _ _ _ _ hP hD hS dX6_count_101
  · have h := it_p c_14 h
    refine lv_iconst (v := 1) hx hb dX6_count_28 (by decide) ?_
    refine lv_goto (tgt := 33) hx hb dX6_count_29 (by decide) ?_
    refine lv_topi (fun x4_52 ex4_52 => ?_)
    have h := nm_s h x4_52 ex4_52
    refine lv_istore (lv' := [(4, .int x4_52), (3, .int x3_13), (0, .ref h6), (1, .int i1), (2, .int i2)]) hx hb dX6_count_33 hl (by decide) rfl (fun ls hl => ?_)
    have L35 : ∀ (n : Nat) (y4_53 : Int32) (y3_54 : Int32) (behind6_55 : Nat → Int32) (z4_56 : Int32) (z3_57 : Int32) (behind6_58 : Nat → Int32), f_X6_count_L35 i1 i2 told6 length6 n y4_53 y3_54 behind6_55 = some (z4_56, z3_57, behind6_58) → ∀ (H : Heap) (locs : List Loc) (ls : Array Slot), va_P D vwK (w6 cI cJ h6 labels6a guesses6a comes6a sizes6a words6a told6a behind6a shares6a start6a move6a show6a signs6a many6a bestPath6a nextStart6a nextMove6a nextShow6a thrown6 rows6 labels6 guesses6 comes6 sizes6 words6 up6 down6 weightAbove6 weightBelow6 told6 length6 behind6_55 shares6 over6 start6 move6 show6 signs6 many6 bestPath6 nextStart6 nextMove6 nextShow6) H → va_D A (w6 cI cJ h6 labels6a guesses6a comes6a sizes6a words6a told6a behind6a shares6a start6a move6a show6a signs6a many6a bestPath6a nextStart6a nextMove6a nextShow6a thrown6 rows6 labels6 guesses6 comes6 sizes6 words6 up6 down6 weightAbove6 weightBelow6 told6 length6 behind6_55 shares6 over6 start6 move6 show6 signs6 many6 bestPath6 nextStart6 nextMove6 nextShow6) → va_S A s.heap H locs → lv_has ls 5 [(4, .int y4_53), (3, .int y3_54), (0, .ref h6), (1, .int i1), (2, .int i2)] → (∀ (H : Heap) (locs : List Loc) (ls : Array Slot), va_P D vwK (w6 cI cJ h6 labels6a guesses6a comes6a sizes6a words6a told6a behind6a shares6a start6a move6a show6a signs6a many6a bestPath6a nextStart6a nextMove6a nextShow6a thrown6 rows6 labels6 guesses6 comes6 sizes6 words6 up6 down6 weightAbove6 weightBelow6 told6 length6 behind6_58 shares6 over6 start6 move6 show6 signs6 many6 bestPath6 nextStart6 nextMove6 nextShow6) H → va_D A (w6 cI cJ h6 labels6a guesses6a comes6a sizes6a words6a told6a behind6a shares6a start6a move6a show6a signs6a many6a bestPath6a nextStart6a nextMove6a nextShow6a thrown6 rows6 labels6 guesses6 comes6 sizes6 words6 up6 down6 weightAbove6 weightBelow6 told6 length6 behind6_58 shares6 over6 start6 move6 show6 signs6 many6 bestPath6 nextStart6 nextMove6 nextShow6) → va_S A s.heap H locs → lv_has ls 5 [(3, .int z3_57)] → W p l e (rmOf 0 0) s m args below meth c H locs 0 0 Q (F0 m 100 ls [])) → W p l e (rmOf 0 0) s m args below meth c H locs 0 0 Q (F0 m 35 ls []) := by
      intro n
      induction n with
      | zero => intro y4_53 y3_54 behind6_55 z4_56 z3_57 behind6_58 h; rw [f_X6_count_L35.eq_1] at h; cases h
      | succ n ih =>
        intro y4_53 y3_54 behind6_55 z4_56 z3_57 behind6_58 h H locs ls hP hD hS hl K
        rw [f_X6_count_L35.eq_2] at h
        refine lv_iload hx hb dX6_count_35 (lv_at hl 0 rfl) ?_
        refine lv_aload_n hx hb dX6_count_37 rfl (lv_at hl 2 rfl) ?_
        refine va_get (D := D) (ci := 5) (v := .int length6) (C := RX6) (T := TX6) (N := 25) hx hb hts hinX6 hown hK.1 hP 0 rfl rfl 12 (by decide) hw3 (fun _ h9 => h9) rfl dX6_count_38 ?_
        refine lv_icmp_ge (tgt := 100) hx hb dX6_count_41 (by decide) (fun c_59 => ?_) (fun c_59 => ?_)
        · have h := it_p c_59 h
          cases h
          exact K _ _ _ hP hD hS (lv_sub hl [1] rfl)
        · have h := it_n c_59 h
          refine lv_aload_n hx hb dX6_count_44 rfl (lv_at hl 2 rfl) ?_
          refine va_get (D := D) (ci := 5) (v := .ref told6a) (C := RX6) (T := TX6) (N := 25) hx hb hts hinX6 hown hK.1 hP 0 rfl rfl 11 (by decide) hw4 (fun _ h9 => h9) rfl dX6_count_45 ?_
          refine lv_iload hx hb dX6_count_48 (lv_at hl 0 rfl) ?_
          refine lv_iconst (v := 1) hx hb dX6_count_50 (by decide) ?_
          refine lv_isub hx hb dX6_count_51 ?_
          obtain ⟨hi_60, h⟩ := gA_s h
          refine va_iald hx hb hK.1 hP 6 0 rfl rfl hi_60 dX6_count_52 ?_
          refine lv_topi (fun v_61 ev_61 => ?_)
          have h := h v_61 ev_61
          refine lv_iload_n hx hb dX6_count_53 rfl (lv_at hl 4 rfl) ?_
          refine lv_icmp_ne (tgt := 94) hx hb dX6_count_54 (by decide) (fun c_62 => ?_) (fun c_62 => ?_)
          · have h := it_n c_62 h
            obtain ⟨x4_63, ex4_63⟩ : ∃ z : Int32, z = y4_53 + 1 := ⟨_, rfl⟩
            have h := nm_s h x4_63 ex4_63
            refine lv_iinc (v := x4_63) (lv' := [(4, .int x4_63), (3, .int y3_54), (0, .ref h6), (1, .int i1), (2, .int i2)]) hx hb dX6_count_94 hl (k := 0) rfl (by rw [ex4_63]; rfl) (by decide) rfl (fun ls hl => ?_)
            refine lv_goto (tgt := 35) hx hb dX6_count_97 (by decide) ?_
            exact ih _ _ _ _ _ _ h _ _ _ hP hD hS (lv_sub hl [0, 1, 2, 3, 4] rfl) K
          · have h := it_p c_62 h
            refine lv_iload_n hx hb dX6_count_57 rfl (lv_at hl 3 rfl) ?_
            refine lv_iconst (v := (-1)) hx hb dX6_count_58 (by decide) ?_
            refine lv_icmp_eq (tgt := 75) hx hb dX6_count_59 (by decide) (fun c_64 => ?_) (fun c_64 => ?_)
            · have h := it_p c_64 h
              refine lv_aload_n hx hb dX6_count_75 rfl (lv_at hl 2 rfl) ?_
              refine va_get (D := D) (ci := 5) (v := .ref behind6a) (C := RX6) (T := TX6) (N := 25) hx hb hts hinX6 hown hK.1 hP 0 rfl rfl 13 (by decide) hw1 (fun _ h9 => h9) rfl dX6_count_76 ?_
              refine lv_aload_n hx hb dX6_count_79 rfl (lv_at hl 2 rfl) ?_
              refine va_get (D := D) (ci := 5) (v := .ref told6a) (C := RX6) (T := TX6) (N := 25) hx hb hts hinX6 hown hK.1 hP 0 rfl rfl 11 (by decide) hw4 (fun _ h9 => h9) rfl dX6_count_80 ?_
              refine lv_iload hx hb dX6_count_83 (lv_at hl 0 rfl) ?_
              obtain ⟨hi_65, h⟩ := gA_s h
              refine va_iald hx hb hK.1 hP 6 0 rfl rfl hi_65 dX6_count_85 ?_
              refine lv_topi (fun v_66 ev_66 => ?_)
              have h := h v_66 ev_66
              refine lv_dup2_11 hx hb dX6_count_86 rfl rfl ?_
              obtain ⟨hi_67, h⟩ := gA_s h
              refine va_iald hx hb hK.1 hP 7 0 rfl rfl hi_67 dX6_count_87 ?_
              refine lv_topi (fun v_68 ev_68 => ?_)
              have h := h v_68 ev_68
              refine lv_iconst (v := 1) hx hb dX6_count_88 (by decide) ?_
              refine lv_iadd hx hb dX6_count_89 ?_
              obtain ⟨hi_69, h⟩ := sI_s h
              refine va_iast hx hb hK.1 hP hD hS 7 0 rfl rfl hi_69 dX6_count_90 (fun H locs hP hD hS => ?_)
              obtain ⟨behind6_70, ebehind6_70⟩ : ∃ z, z = upd behind6_55 (Int32.toNatClampNeg v_66) (v_68 + 1) := ⟨_, rfl⟩
              have h := h behind6_70 ebehind6_70
              rw [← ebehind6_70] at hP hD
              have hP : va_P D vwK (w6 cI cJ h6 labels6a guesses6a comes6a sizes6a words6a told6a behind6a shares6a start6a move6a show6a signs6a many6a bestPath6a nextStart6a nextMove6a nextShow6a thrown6 rows6 labels6 guesses6 comes6 sizes6 words6 up6 down6 weightAbove6 weightBelow6 told6 length6 behind6_70 shares6 over6 start6 move6 show6 signs6 many6 bestPath6 nextStart6 nextMove6 nextShow6) H := hP
              have hD : va_D A (w6 cI cJ h6 labels6a guesses6a comes6a sizes6a words6a told6a behind6a shares6a start6a move6a show6a signs6a many6a bestPath6a nextStart6a nextMove6a nextShow6a thrown6 rows6 labels6 guesses6 comes6 sizes6 words6 up6 down6 weightAbove6 weightBelow6 told6 length6 behind6_70 shares6 over6 start6 move6 show6 signs6 many6 bestPath6 nextStart6 nextMove6 nextShow6) := hD
              obtain ⟨x3_71, ex3_71⟩ : ∃ z : Int32, z = y3_54 + 1 := ⟨_, rfl⟩
              have h := nm_s h x3_71 ex3_71
              refine lv_iinc (v := x3_71) (lv' := [(3, .int x3_71), (4, .int y4_53), (0, .ref h6), (1, .int i1), (2, .int i2)]) hx hb dX6_count_91 hl (k := 1) rfl (by rw [ex3_71]; rfl) (by decide) rfl (fun ls hl => ?_)
              obtain ⟨x4_72, ex4_72⟩ : ∃ z : Int32, z = y4_53 + 1 := ⟨_, rfl⟩
              have h := nm_s h x4_72 ex4_72
              refine lv_iinc (v := x4_72) (lv' := [(4, .int x4_72), (3, .int x3_71), (0, .ref h6), (1, .int i1), (2, .int i2)]) hx hb dX6_count_94 hl (k := 1) rfl (by rw [ex4_72]; rfl) (by decide) rfl (fun ls hl => ?_)
              refine lv_goto (tgt := 35) hx hb dX6_count_97 (by decide) ?_
              exact ih _ _ _ _ _ _ h _ _ _ hP hD hS (lv_sub hl [0, 1, 2, 3, 4] rfl) K
            · have h := it_n c_64 h
              refine lv_aload_n hx hb dX6_count_62 rfl (lv_at hl 2 rfl) ?_
              refine va_get (D := D) (ci := 5) (v := .ref told6a) (C := RX6) (T := TX6) (N := 25) hx hb hts hinX6 hown hK.1 hP 0 rfl rfl 11 (by decide) hw4 (fun _ h9 => h9) rfl dX6_count_63 ?_
              refine lv_iload hx hb dX6_count_66 (lv_at hl 0 rfl) ?_
              refine lv_iconst (v := 2) hx hb dX6_count_68 (by decide) ?_
              refine lv_isub hx hb dX6_count_69 ?_
              obtain ⟨hi_73, h⟩ := gA_s h
              refine va_iald hx hb hK.1 hP 6 0 rfl rfl hi_73 dX6_count_70 ?_
              refine lv_topi (fun v_74 ev_74 => ?_)
              have h := h v_74 ev_74
              refine lv_iload_n hx hb dX6_count_71 rfl (lv_at hl 3 rfl) ?_
              refine lv_icmp_ne (tgt := 94) hx hb dX6_count_72 (by decide) (fun c_75 => ?_) (fun c_75 => ?_)
              · have h := it_n c_75 h
                obtain ⟨x4_76, ex4_76⟩ : ∃ z : Int32, z = y4_53 + 1 := ⟨_, rfl⟩
                have h := nm_s h x4_76 ex4_76
                refine lv_iinc (v := x4_76) (lv' := [(4, .int x4_76), (3, .int y3_54), (0, .ref h6), (1, .int i1), (2, .int i2)]) hx hb dX6_count_94 hl (k := 0) rfl (by rw [ex4_76]; rfl) (by decide) rfl (fun ls hl => ?_)
                refine lv_goto (tgt := 35) hx hb dX6_count_97 (by decide) ?_
                exact ih _ _ _ _ _ _ h _ _ _ hP hD hS (lv_sub hl [0, 1, 2, 3, 4] rfl) K
              · have h := it_p c_75 h
                refine lv_aload_n hx hb dX6_count_75 rfl (lv_at hl 2 rfl) ?_
                refine va_get (D := D) (ci := 5) (v := .ref behind6a) (C := RX6) (T := TX6) (N := 25) hx hb hts hinX6 hown hK.1 hP 0 rfl rfl 13 (by decide) hw1 (fun _ h9 => h9) rfl dX6_count_76 ?_
                refine lv_aload_n hx hb dX6_count_79 rfl (lv_at hl 2 rfl) ?_
                refine va_get (D := D) (ci := 5) (v := .ref told6a) (C := RX6) (T := TX6) (N := 25) hx hb hts hinX6 hown hK.1 hP 0 rfl rfl 11 (by decide) hw4 (fun _ h9 => h9) rfl dX6_count_80 ?_
                refine lv_iload hx hb dX6_count_83 (lv_at hl 0 rfl) ?_
                obtain ⟨hi_77, h⟩ := gA_s h
                refine va_iald hx hb hK.1 hP 6 0 rfl rfl hi_77 dX6_count_85 ?_
                refine lv_topi (fun v_78 ev_78 => ?_)
                have h := h v_78 ev_78
                refine lv_dup2_11 hx hb dX6_count_86 rfl rfl ?_
                obtain ⟨hi_79, h⟩ := gA_s h
                refine va_iald hx hb hK.1 hP 7 0 rfl rfl hi_79 dX6_count_87 ?_
                refine lv_topi (fun v_80 ev_80 => ?_)
                have h := h v_80 ev_80
                refine lv_iconst (v := 1) hx hb dX6_count_88 (by decide) ?_
                refine lv_iadd hx hb dX6_count_89 ?_
                obtain ⟨hi_81, h⟩ := sI_s h
                refine va_iast hx hb hK.1 hP hD hS 7 0 rfl rfl hi_81 dX6_count_90 (fun H locs hP hD hS => ?_)
                obtain ⟨behind6_82, ebehind6_82⟩ : ∃ z, z = upd behind6_55 (Int32.toNatClampNeg v_78) (v_80 + 1) := ⟨_, rfl⟩
                have h := h behind6_82 ebehind6_82
                rw [← ebehind6_82] at hP hD
                have hP : va_P D vwK (w6 cI cJ h6 labels6a guesses6a comes6a sizes6a words6a told6a behind6a shares6a start6a move6a show6a signs6a many6a bestPath6a nextStart6a nextMove6a nextShow6a thrown6 rows6 labels6 guesses6 comes6 sizes6 words6 up6 down6 weightAbove6 weightBelow6 told6 length6 behind6_82 shares6 over6 start6 move6 show6 signs6 many6 bestPath6 nextStart6 nextMove6 nextShow6) H := hP
                have hD : va_D A (w6 cI cJ h6 labels6a guesses6a comes6a sizes6a words6a told6a behind6a shares6a start6a move6a show6a signs6a many6a bestPath6a nextStart6a nextMove6a nextShow6a thrown6 rows6 labels6 guesses6 comes6 sizes6 words6 up6 down6 weightAbove6 weightBelow6 told6 length6 behind6_82 shares6 over6 start6 move6 show6 signs6 many6 bestPath6 nextStart6 nextMove6 nextShow6) := hD
                obtain ⟨x3_83, ex3_83⟩ : ∃ z : Int32, z = y3_54 + 1 := ⟨_, rfl⟩
                have h := nm_s h x3_83 ex3_83
                refine lv_iinc (v := x3_83) (lv' := [(3, .int x3_83), (4, .int y4_53), (0, .ref h6), (1, .int i1), (2, .int i2)]) hx hb dX6_count_91 hl (k := 1) rfl (by rw [ex3_83]; rfl) (by decide) rfl (fun ls hl => ?_)
                obtain ⟨x4_84, ex4_84⟩ : ∃ z : Int32, z = y4_53 + 1 := ⟨_, rfl⟩
                have h := nm_s h x4_84 ex4_84
                refine lv_iinc (v := x4_84) (lv' := [(4, .int x4_84), (3, .int x3_83), (0, .ref h6), (1, .int i1), (2, .int i2)]) hx hb dX6_count_94 hl (k := 1) rfl (by rw [ex4_84]; rfl) (by decide) rfl (fun ls hl => ?_)
                refine lv_goto (tgt := 35) hx hb dX6_count_97 (by decide) ?_
                exact ih _ _ _ _ _ _ h _ _ _ hP hD hS (lv_sub hl [0, 1, 2, 3, 4] rfl) K
    obtain ⟨⟨z4_85, z3_86, behind6_87⟩, hl_88, h⟩ := bd_s h
    refine L35 FU x4_52 x3_13 behind6_11 _ _ _ hl_88 _ _ _ hP hD hS (lv_sub hl [0, 1, 2, 3, 4] rfl) (fun H locs ls hP hD hS hl => ?_)
    refine lv_iload_n hx hb dX6_count_100 rfl (lv_at hl 0 rfl) ?_
    cases h
    exact hret _ _ _ _ hP hD hS dX6_count_101
def f_X6_first_L2 : Nat → Int32 → (Nat → Int64) → Option (Int32 × (Nat → Int64))
  | 0, _, _ => none
  | n + 1, y1_2, shares6_3 =>
  if 8 ≤ y1_2 then
    some (y1_2, shares6_3)
  else
    sL 8 shares6_3 y1_2 1 fun shares6_8 =>
    nm (α := Int32) (y1_2 + 1) fun x1_9 =>
    f_X6_first_L2 n x1_9 shares6_8
def f_X6_first_L23 (told6 : Nat → Int32) (length6 : Int32) : Nat → Int32 → (Nat → Int64) → Option (Int32 × (Nat → Int64))
  | 0, _, _ => none
  | n + 1, y1_14, shares6_15 =>
  if length6 ≤ y1_14 then
    some (y1_14, shares6_15)
  else
    gA 60 told6 y1_14 fun v_20 =>
    gA 8 shares6_15 v_20 fun v_22 =>
    sL 8 shares6_15 v_20 (v_22 + 1) fun shares6_24 =>
    nm (α := Int32) (y1_14 + 1) fun x1_25 =>
    f_X6_first_L23 told6 length6 n x1_25 shares6_24
def f_X6_first (told6 : Nat → Int32) (length6 : Int32) (shares6 : Nat → Int64) (over6 : Int64) : Option ((Nat → Int64) × Int64) :=
  nm (α := Int32) (0) fun x1_1 =>
  Option.bind (f_X6_first_L2 FU x1_1 shares6) fun (z1_10, shares6_11) =>
  nm (α := Int32) (0) fun x1_13 =>
  Option.bind (f_X6_first_L23 told6 length6 FU x1_13 shares6_11) fun (z1_26, shares6_27) =>
  nm (α := Int64) (((Int32.toInt64 length6) + 8)) fun over6_29 =>
  some (shares6_27, over6_29)
set_option maxHeartbeats 4000000 in
set_option maxRecDepth 100000 in
theorem c_X6_first (l : Launch) (D : va_G) (cI cJ : ClassId) (h6 labels6a guesses6a comes6a sizes6a words6a told6a behind6a shares6a start6a move6a show6a signs6a many6a bestPath6a nextStart6a nextMove6a nextShow6a : Nat) (thrown6 : Int32) (rows6 : Int32) (labels6 : Nat → Int32) (guesses6 : Nat → Int32) (comes6 : Nat → Int32) (sizes6 : Nat → Int32) (words6 : Nat → Int32) (up6 : Int32) (down6 : Int32) (weightAbove6 : Int64) (weightBelow6 : Int64) (told6 : Nat → Int32) (length6 : Int32) (behind6 : Nat → Int32) (shares6 : Nat → Int64) (over6 : Int64) (start6 : Nat → Int32) (move6 : Nat → Int32) (show6 : Nat → Int32) (signs6 : Nat → Int32) (many6 : Nat → Int32) (bestPath6 : Nat → Int32) (nextStart6 : Nat → Int32) (nextMove6 : Nat → Int32) (nextShow6 : Nat → Int32) (shares6z : Nat → Int64) (over6z : Int64) (h : f_X6_first told6 length6 shares6 over6 = some (shares6z, over6z)) : CV l D cI cJ yX6_first wsX6_first 0 0 [.ref h6] (w6 cI cJ h6 labels6a guesses6a comes6a sizes6a words6a told6a behind6a shares6a start6a move6a show6a signs6a many6a bestPath6a nextStart6a nextMove6a nextShow6a thrown6 rows6 labels6 guesses6 comes6 sizes6 words6 up6 down6 weightAbove6 weightBelow6 told6 length6 behind6 shares6 over6 start6 move6 show6 signs6 many6 bestPath6 nextStart6 nextMove6 nextShow6) (w6 cI cJ h6 labels6a guesses6a comes6a sizes6a words6a told6a behind6a shares6a start6a move6a show6a signs6a many6a bestPath6a nextStart6a nextMove6a nextShow6a thrown6 rows6 labels6 guesses6 comes6 sizes6 words6 up6 down6 weightAbove6 weightBelow6 told6 length6 behind6 shares6z over6z start6 move6 show6 signs6 many6 bestPath6 nextStart6 nextMove6 nextShow6) := by
  refine entV (cc := cX6_first) (maxL := 2) (by decide) rfl (Nat.le_of_ble_eq_true rfl) ?_
  intro p e s m args below meth c ls A Q X hret
  obtain ⟨hx, hb, hml, hts, hown, hK, hA, hP, hD, hS, hl, hnm⟩ := X
  have hown : s.vm.findClass RX6 = some m.cls := hown
  have hl : lv_has ls 2 [(0, .ref h6)] := hl
  have hw1 : (Cond.fieldLink RX6 38 "CountLearnersModel" "shares" "[J").before args s = true := hts _ (by decide +kernel)
  have hinX6 : ∀ w ∈ wsX60, w ∈ wsX6_first := by decide +kernel
  have hw3 : (Cond.fieldLink RX6 142 "CountLearnersModel" "length" "I").before args s = true := hts _ (by decide +kernel)
  have hw4 : (Cond.fieldLink RX6 32 "CountLearnersModel" "told" "[I").before args s = true := hts _ (by decide +kernel)
  have hw5 : (Cond.constantLong RX6 104 (8)).before args s = true := hts _ (by decide +kernel)
  have hw6 : (Cond.fieldLink RX6 145 "CountLearnersModel" "over" "J").before args s = true := hts _ (by decide +kernel)
  unfold f_X6_first at h
  refine lv_iconst (v := 0) hx hb dX6_first_0 (by decide) ?_
  refine lv_topi (fun x1_1 ex1_1 => ?_)
  have h := nm_s h x1_1 ex1_1
  refine lv_istore_n (lv' := [(1, .int x1_1), (0, .ref h6)]) hx hb dX6_first_1 rfl hl (by decide) rfl (fun ls hl => ?_)
  have L2 : ∀ (n : Nat) (y1_2 : Int32) (shares6_3 : Nat → Int64) (z1_4 : Int32) (shares6_5 : Nat → Int64), f_X6_first_L2 n y1_2 shares6_3 = some (z1_4, shares6_5) → ∀ (H : Heap) (locs : List Loc) (ls : Array Slot), va_P D vwK (w6 cI cJ h6 labels6a guesses6a comes6a sizes6a words6a told6a behind6a shares6a start6a move6a show6a signs6a many6a bestPath6a nextStart6a nextMove6a nextShow6a thrown6 rows6 labels6 guesses6 comes6 sizes6 words6 up6 down6 weightAbove6 weightBelow6 told6 length6 behind6 shares6_3 over6 start6 move6 show6 signs6 many6 bestPath6 nextStart6 nextMove6 nextShow6) H → va_D A (w6 cI cJ h6 labels6a guesses6a comes6a sizes6a words6a told6a behind6a shares6a start6a move6a show6a signs6a many6a bestPath6a nextStart6a nextMove6a nextShow6a thrown6 rows6 labels6 guesses6 comes6 sizes6 words6 up6 down6 weightAbove6 weightBelow6 told6 length6 behind6 shares6_3 over6 start6 move6 show6 signs6 many6 bestPath6 nextStart6 nextMove6 nextShow6) → va_S A s.heap H locs → lv_has ls 2 [(1, .int y1_2), (0, .ref h6)] → (∀ (H : Heap) (locs : List Loc) (ls : Array Slot), va_P D vwK (w6 cI cJ h6 labels6a guesses6a comes6a sizes6a words6a told6a behind6a shares6a start6a move6a show6a signs6a many6a bestPath6a nextStart6a nextMove6a nextShow6a thrown6 rows6 labels6 guesses6 comes6 sizes6 words6 up6 down6 weightAbove6 weightBelow6 told6 length6 behind6 shares6_5 over6 start6 move6 show6 signs6 many6 bestPath6 nextStart6 nextMove6 nextShow6) H → va_D A (w6 cI cJ h6 labels6a guesses6a comes6a sizes6a words6a told6a behind6a shares6a start6a move6a show6a signs6a many6a bestPath6a nextStart6a nextMove6a nextShow6a thrown6 rows6 labels6 guesses6 comes6 sizes6 words6 up6 down6 weightAbove6 weightBelow6 told6 length6 behind6 shares6_5 over6 start6 move6 show6 signs6 many6 bestPath6 nextStart6 nextMove6 nextShow6) → va_S A s.heap H locs → lv_has ls 2 [(0, .ref h6)] → W p l e (rmOf 0 0) s m args below meth c H locs 0 0 Q (F0 m 21 ls [])) → W p l e (rmOf 0 0) s m args below meth c H locs 0 0 Q (F0 m 2 ls []) := by
    intro n
    induction n with
    | zero => intro y1_2 shares6_3 z1_4 shares6_5 h; rw [f_X6_first_L2.eq_1] at h; cases h
    | succ n ih =>
      intro y1_2 shares6_3 z1_4 shares6_5 h H locs ls hP hD hS hl K
      rw [f_X6_first_L2.eq_2] at h
      refine lv_iload_n hx hb dX6_first_2 rfl (lv_at hl 0 rfl) ?_
      refine lv_bipush (v := 8) hx hb dX6_first_3 (by decide) ?_
      refine lv_icmp_ge (tgt := 21) hx hb dX6_first_5 (by decide) (fun c_6 => ?_) (fun c_6 => ?_)
      · have h := it_p c_6 h
        cases h
        exact K _ _ _ hP hD hS (lv_sub hl [1] rfl)
      · have h := it_n c_6 h
        refine lv_aload_n hx hb dX6_first_8 rfl (lv_at hl 1 rfl) ?_
        refine va_get (D := D) (ci := 5) (v := .ref shares6a) (C := RX6) (T := TX6) (N := 25) hx hb hts hinX6 hown hK.1 hP 0 rfl rfl 14 (by decide) hw1 (fun _ h9 => h9) rfl dX6_first_9 ?_
        refine lv_iload_n hx hb dX6_first_12 rfl (lv_at hl 0 rfl) ?_
        refine lv_lconst (v := 1) hx hb dX6_first_13 (by decide) ?_
        obtain ⟨hi_7, h⟩ := sL_s h
        refine va_last hx hb hK.1 hP hD hS 8 1 rfl rfl hi_7 dX6_first_14 (fun H locs hP hD hS => ?_)
        obtain ⟨shares6_8, eshares6_8⟩ : ∃ z, z = vp_updL shares6_3 (Int32.toNatClampNeg y1_2) 1 := ⟨_, rfl⟩
        have h := h shares6_8 eshares6_8
        rw [← eshares6_8] at hP hD
        have hP : va_P D vwK (w6 cI cJ h6 labels6a guesses6a comes6a sizes6a words6a told6a behind6a shares6a start6a move6a show6a signs6a many6a bestPath6a nextStart6a nextMove6a nextShow6a thrown6 rows6 labels6 guesses6 comes6 sizes6 words6 up6 down6 weightAbove6 weightBelow6 told6 length6 behind6 shares6_8 over6 start6 move6 show6 signs6 many6 bestPath6 nextStart6 nextMove6 nextShow6) H := hP
        have hD : va_D A (w6 cI cJ h6 labels6a guesses6a comes6a sizes6a words6a told6a behind6a shares6a start6a move6a show6a signs6a many6a bestPath6a nextStart6a nextMove6a nextShow6a thrown6 rows6 labels6 guesses6 comes6 sizes6 words6 up6 down6 weightAbove6 weightBelow6 told6 length6 behind6 shares6_8 over6 start6 move6 show6 signs6 many6 bestPath6 nextStart6 nextMove6 nextShow6) := hD
        obtain ⟨x1_9, ex1_9⟩ : ∃ z : Int32, z = y1_2 + 1 := ⟨_, rfl⟩
        have h := nm_s h x1_9 ex1_9
        refine lv_iinc (v := x1_9) (lv' := [(1, .int x1_9), (0, .ref h6)]) hx hb dX6_first_15 hl (k := 0) rfl (by rw [ex1_9]; rfl) (by decide) rfl (fun ls hl => ?_)
        refine lv_goto (tgt := 2) hx hb dX6_first_18 (by decide) ?_
        exact ih _ _ _ _ h _ _ _ hP hD hS (lv_sub hl [0, 1] rfl) K
  obtain ⟨⟨z1_10, shares6_11⟩, hl_12, h⟩ := bd_s h
  refine L2 FU x1_1 shares6 _ _ hl_12 _ _ _ hP hD hS (lv_sub hl [0, 1] rfl) (fun H locs ls hP hD hS hl => ?_)
  refine lv_iconst (v := 0) hx hb dX6_first_21 (by decide) ?_
  refine lv_topi (fun x1_13 ex1_13 => ?_)
  have h := nm_s h x1_13 ex1_13
  refine lv_istore_n (lv' := [(1, .int x1_13), (0, .ref h6)]) hx hb dX6_first_22 rfl hl (by decide) rfl (fun ls hl => ?_)
  have L23 : ∀ (n : Nat) (y1_14 : Int32) (shares6_15 : Nat → Int64) (z1_16 : Int32) (shares6_17 : Nat → Int64), f_X6_first_L23 told6 length6 n y1_14 shares6_15 = some (z1_16, shares6_17) → ∀ (H : Heap) (locs : List Loc) (ls : Array Slot), va_P D vwK (w6 cI cJ h6 labels6a guesses6a comes6a sizes6a words6a told6a behind6a shares6a start6a move6a show6a signs6a many6a bestPath6a nextStart6a nextMove6a nextShow6a thrown6 rows6 labels6 guesses6 comes6 sizes6 words6 up6 down6 weightAbove6 weightBelow6 told6 length6 behind6 shares6_15 over6 start6 move6 show6 signs6 many6 bestPath6 nextStart6 nextMove6 nextShow6) H → va_D A (w6 cI cJ h6 labels6a guesses6a comes6a sizes6a words6a told6a behind6a shares6a start6a move6a show6a signs6a many6a bestPath6a nextStart6a nextMove6a nextShow6a thrown6 rows6 labels6 guesses6 comes6 sizes6 words6 up6 down6 weightAbove6 weightBelow6 told6 length6 behind6 shares6_15 over6 start6 move6 show6 signs6 many6 bestPath6 nextStart6 nextMove6 nextShow6) → va_S A s.heap H locs → lv_has ls 2 [(1, .int y1_14), (0, .ref h6)] → (∀ (H : Heap) (locs : List Loc) (ls : Array Slot), va_P D vwK (w6 cI cJ h6 labels6a guesses6a comes6a sizes6a words6a told6a behind6a shares6a start6a move6a show6a signs6a many6a bestPath6a nextStart6a nextMove6a nextShow6a thrown6 rows6 labels6 guesses6 comes6 sizes6 words6 up6 down6 weightAbove6 weightBelow6 told6 length6 behind6 shares6_17 over6 start6 move6 show6 signs6 many6 bestPath6 nextStart6 nextMove6 nextShow6) H → va_D A (w6 cI cJ h6 labels6a guesses6a comes6a sizes6a words6a told6a behind6a shares6a start6a move6a show6a signs6a many6a bestPath6a nextStart6a nextMove6a nextShow6a thrown6 rows6 labels6 guesses6 comes6 sizes6 words6 up6 down6 weightAbove6 weightBelow6 told6 length6 behind6 shares6_17 over6 start6 move6 show6 signs6 many6 bestPath6 nextStart6 nextMove6 nextShow6) → va_S A s.heap H locs → lv_has ls 2 [(0, .ref h6)] → W p l e (rmOf 0 0) s m args below meth c H locs 0 0 Q (F0 m 52 ls [])) → W p l e (rmOf 0 0) s m args below meth c H locs 0 0 Q (F0 m 23 ls []) := by
    intro n
    induction n with
    | zero => intro y1_14 shares6_15 z1_16 shares6_17 h; rw [f_X6_first_L23.eq_1] at h; cases h
    | succ n ih =>
      intro y1_14 shares6_15 z1_16 shares6_17 h H locs ls hP hD hS hl K
      rw [f_X6_first_L23.eq_2] at h
      refine lv_iload_n hx hb dX6_first_23 rfl (lv_at hl 0 rfl) ?_
      refine lv_aload_n hx hb dX6_first_24 rfl (lv_at hl 1 rfl) ?_
      refine va_get (D := D) (ci := 5) (v := .int length6) (C := RX6) (T := TX6) (N := 25) hx hb hts hinX6 hown hK.1 hP 0 rfl rfl 12 (by decide) hw3 (fun _ h9 => h9) rfl dX6_first_25 ?_
      refine lv_icmp_ge (tgt := 52) hx hb dX6_first_28 (by decide) (fun c_18 => ?_) (fun c_18 => ?_)
      · have h := it_p c_18 h
        cases h
        exact K _ _ _ hP hD hS (lv_sub hl [1] rfl)
      · have h := it_n c_18 h
        refine lv_aload_n hx hb dX6_first_31 rfl (lv_at hl 1 rfl) ?_
        refine va_get (D := D) (ci := 5) (v := .ref shares6a) (C := RX6) (T := TX6) (N := 25) hx hb hts hinX6 hown hK.1 hP 0 rfl rfl 14 (by decide) hw1 (fun _ h9 => h9) rfl dX6_first_32 ?_
        refine lv_aload_n hx hb dX6_first_35 rfl (lv_at hl 1 rfl) ?_
        refine va_get (D := D) (ci := 5) (v := .ref told6a) (C := RX6) (T := TX6) (N := 25) hx hb hts hinX6 hown hK.1 hP 0 rfl rfl 11 (by decide) hw4 (fun _ h9 => h9) rfl dX6_first_36 ?_
        refine lv_iload_n hx hb dX6_first_39 rfl (lv_at hl 0 rfl) ?_
        obtain ⟨hi_19, h⟩ := gA_s h
        refine va_iald hx hb hK.1 hP 6 0 rfl rfl hi_19 dX6_first_40 ?_
        refine lv_topi (fun v_20 ev_20 => ?_)
        have h := h v_20 ev_20
        refine lv_dup2_11 hx hb dX6_first_41 rfl rfl ?_
        obtain ⟨hi_21, h⟩ := gA_s h
        refine va_lald hx hb hK.1 hP 8 1 rfl rfl hi_21 dX6_first_42 ?_
        refine lv_topl (fun v_22 ev_22 => ?_)
        have h := h v_22 ev_22
        refine lv_lconst (v := 1) hx hb dX6_first_43 (by decide) ?_
        refine lv_ladd hx hb dX6_first_44 ?_
        obtain ⟨hi_23, h⟩ := sL_s h
        refine va_last hx hb hK.1 hP hD hS 8 1 rfl rfl hi_23 dX6_first_45 (fun H locs hP hD hS => ?_)
        obtain ⟨shares6_24, eshares6_24⟩ : ∃ z, z = vp_updL shares6_15 (Int32.toNatClampNeg v_20) (v_22 + 1) := ⟨_, rfl⟩
        have h := h shares6_24 eshares6_24
        rw [← eshares6_24] at hP hD
        have hP : va_P D vwK (w6 cI cJ h6 labels6a guesses6a comes6a sizes6a words6a told6a behind6a shares6a start6a move6a show6a signs6a many6a bestPath6a nextStart6a nextMove6a nextShow6a thrown6 rows6 labels6 guesses6 comes6 sizes6 words6 up6 down6 weightAbove6 weightBelow6 told6 length6 behind6 shares6_24 over6 start6 move6 show6 signs6 many6 bestPath6 nextStart6 nextMove6 nextShow6) H := hP
        have hD : va_D A (w6 cI cJ h6 labels6a guesses6a comes6a sizes6a words6a told6a behind6a shares6a start6a move6a show6a signs6a many6a bestPath6a nextStart6a nextMove6a nextShow6a thrown6 rows6 labels6 guesses6 comes6 sizes6 words6 up6 down6 weightAbove6 weightBelow6 told6 length6 behind6 shares6_24 over6 start6 move6 show6 signs6 many6 bestPath6 nextStart6 nextMove6 nextShow6) := hD
        obtain ⟨x1_25, ex1_25⟩ : ∃ z : Int32, z = y1_14 + 1 := ⟨_, rfl⟩
        have h := nm_s h x1_25 ex1_25
        refine lv_iinc (v := x1_25) (lv' := [(1, .int x1_25), (0, .ref h6)]) hx hb dX6_first_46 hl (k := 0) rfl (by rw [ex1_25]; rfl) (by decide) rfl (fun ls hl => ?_)
        refine lv_goto (tgt := 23) hx hb dX6_first_49 (by decide) ?_
        exact ih _ _ _ _ h _ _ _ hP hD hS (lv_sub hl [0, 1] rfl) K
  obtain ⟨⟨z1_26, shares6_27⟩, hl_28, h⟩ := bd_s h
  refine L23 FU x1_13 shares6_11 _ _ hl_28 _ _ _ hP hD hS (lv_sub hl [0, 1] rfl) (fun H locs ls hP hD hS hl => ?_)
  refine lv_aload_n hx hb dX6_first_52 rfl (lv_at hl 0 rfl) ?_
  refine lv_aload_n hx hb dX6_first_53 rfl (lv_at hl 0 rfl) ?_
  refine va_get (D := D) (ci := 5) (v := .int length6) (C := RX6) (T := TX6) (N := 25) hx hb hts hinX6 hown hK.1 hP 0 rfl rfl 12 (by decide) hw3 (fun _ h9 => h9) rfl dX6_first_54 ?_
  refine lv_i2l (v := (Int32.toInt64 length6)) hx hb dX6_first_57 rfl ?_
  refine lv_ldc2 (v := 8) hx hb hown hw5 dX6_first_58 ?_
  refine lv_ladd hx hb dX6_first_61 ?_
  refine lv_topl (fun over6_29 eover6_29 => ?_)
  have h := nm_s h over6_29 eover6_29
  refine va_put (D := D) (ci := 5) (v := .long over6_29) (ty := .long) (C := RX6) (T := TX6) (N := 25) hx hb hts hinX6 tyX6 tyX6_ok nmX6 hown hK.1 hP hD hS 0 rfl rfl 15 (by decide) hw6 (fun _ h9 => h9) rfl (by decide +kernel) rfl rfl (Nat.le_of_ble_eq_true rfl) dX6_first_62 (fun H locs hP hD hS => ?_)
  have hP : va_P D vwK (w6 cI cJ h6 labels6a guesses6a comes6a sizes6a words6a told6a behind6a shares6a start6a move6a show6a signs6a many6a bestPath6a nextStart6a nextMove6a nextShow6a thrown6 rows6 labels6 guesses6 comes6 sizes6 words6 up6 down6 weightAbove6 weightBelow6 told6 length6 behind6 shares6_27 over6_29 start6 move6 show6 signs6 many6 bestPath6 nextStart6 nextMove6 nextShow6) H := hP
  have hD : va_D A (w6 cI cJ h6 labels6a guesses6a comes6a sizes6a words6a told6a behind6a shares6a start6a move6a show6a signs6a many6a bestPath6a nextStart6a nextMove6a nextShow6a thrown6 rows6 labels6 guesses6 comes6 sizes6 words6 up6 down6 weightAbove6 weightBelow6 told6 length6 behind6 shares6_27 over6_29 start6 move6 show6 signs6 many6 bestPath6 nextStart6 nextMove6 nextShow6) := hD
  cases h
  exact hret _ _ _ _ hP hD hS dX6_first_65
def f_X6_above_L12 (behind6 : Nat → Int32) (shares6 : Nat → Int64) : Nat → Int32 → Int64 → Int32 → Option (Int32 × Int64 × Int32)
  | 0, _, _, _ => none
  | n + 1, y5_5, k3_6, y2_7 =>
  if 8 ≤ y5_5 then
    some (y5_5, k3_6, y2_7)
  else
    gA 8 behind6 y5_5 fun v_13 =>
    if v_13 ≤ 0 then
      nm (α := Int32) ((y2_7 + 0)) fun x2_15 =>
      gA 8 behind6 y5_5 fun v_17 =>
      if v_17 ≤ 0 then
        gA 8 shares6 y5_5 fun v_20 =>
        nm (α := Int64) ((k3_6 + v_20)) fun j3_21 =>
        nm (α := Int32) (y5_5 + 1) fun x5_22 =>
        f_X6_above_L12 behind6 shares6 n x5_22 j3_21 x2_15
      else
        nm (α := Int64) ((k3_6 + 0)) fun j3_23 =>
        nm (α := Int32) (y5_5 + 1) fun x5_24 =>
        f_X6_above_L12 behind6 shares6 n x5_24 j3_23 x2_15
    else
      nm (α := Int32) ((y2_7 + 1)) fun x2_25 =>
      gA 8 behind6 y5_5 fun v_27 =>
      if v_27 ≤ 0 then
        gA 8 shares6 y5_5 fun v_30 =>
        nm (α := Int64) ((k3_6 + v_30)) fun j3_31 =>
        nm (α := Int32) (y5_5 + 1) fun x5_32 =>
        f_X6_above_L12 behind6 shares6 n x5_32 j3_31 x2_25
      else
        nm (α := Int64) ((k3_6 + 0)) fun j3_33 =>
        nm (α := Int32) (y5_5 + 1) fun x5_34 =>
        f_X6_above_L12 behind6 shares6 n x5_34 j3_33 x2_25
def f_X6_above_L70 (z3_36 : Int64) (z2_37 : Int32) (behind6 : Nat → Int32) : Nat → Int32 → (Nat → Int64) → Option (Int32 × (Nat → Int64))
  | 0, _, _ => none
  | n + 1, y5_40, shares6_41 =>
  if 8 ≤ y5_40 then
    some (y5_40, shares6_41)
  else
    if z2_37 = 8 then
      gA 8 behind6 y5_40 fun v_60 =>
      sL 8 shares6_41 y5_40 (Int32.toInt64 v_60) fun shares6_62 =>
      nm (α := Int32) (y5_40 + 1) fun x5_63 =>
      f_X6_above_L70 z3_36 z2_37 behind6 n x5_63 shares6_62
    else
      gA 8 behind6 y5_40 fun v_47 =>
      if v_47 ≤ 0 then
        gA 8 shares6_41 y5_40 fun v_50 =>
        sL 8 shares6_41 y5_40 ((Int32.toInt64 z2_37) * v_50) fun shares6_52 =>
        nm (α := Int32) (y5_40 + 1) fun x5_53 =>
        f_X6_above_L70 z3_36 z2_37 behind6 n x5_53 shares6_52
      else
        gA 8 behind6 y5_40 fun v_55 =>
        sL 8 shares6_41 y5_40 (((2 * (Int32.toInt64 v_55)) - 1) * z3_36) fun shares6_57 =>
        nm (α := Int32) (y5_40 + 1) fun x5_58 =>
        f_X6_above_L70 z3_36 z2_37 behind6 n x5_58 shares6_57
def f_X6_above (i1 : Int32) (behind6 : Nat → Int32) (shares6 : Nat → Int64) (over6 : Int64) : Option ((Nat → Int64) × Int64) :=
  if i1 = 0 then
    some (shares6, over6)
  else
    nm (α := Int32) (0) fun x2_2 =>
    nm (α := Int64) (0) fun j3_3 =>
    nm (α := Int32) (0) fun x5_4 =>
    Option.bind (f_X6_above_L12 behind6 shares6 FU x5_4 j3_3 x2_2) fun (z5_35, z3_36, z2_37) =>
    nm (α := Int32) (0) fun x5_39 =>
    Option.bind (f_X6_above_L70 z3_36 z2_37 behind6 FU x5_39 shares6) fun (z5_64, shares6_65) =>
    if z2_37 = 8 then
      nm (α := Int64) ((Int32.toInt64 i1)) fun over6_69 =>
      some (shares6_65, over6_69)
    else
      nm (α := Int64) (((2 * (Int32.toInt64 i1)) * z3_36)) fun over6_68 =>
      some (shares6_65, over6_68)
set_option maxHeartbeats 4000000 in
set_option maxRecDepth 100000 in
theorem c_X6_above (l : Launch) (D : va_G) (cI cJ : ClassId) (h6 labels6a guesses6a comes6a sizes6a words6a told6a behind6a shares6a start6a move6a show6a signs6a many6a bestPath6a nextStart6a nextMove6a nextShow6a : Nat) (thrown6 : Int32) (rows6 : Int32) (labels6 : Nat → Int32) (guesses6 : Nat → Int32) (comes6 : Nat → Int32) (sizes6 : Nat → Int32) (words6 : Nat → Int32) (up6 : Int32) (down6 : Int32) (weightAbove6 : Int64) (weightBelow6 : Int64) (told6 : Nat → Int32) (length6 : Int32) (behind6 : Nat → Int32) (shares6 : Nat → Int64) (over6 : Int64) (start6 : Nat → Int32) (move6 : Nat → Int32) (show6 : Nat → Int32) (signs6 : Nat → Int32) (many6 : Nat → Int32) (bestPath6 : Nat → Int32) (nextStart6 : Nat → Int32) (nextMove6 : Nat → Int32) (nextShow6 : Nat → Int32) (i1 : Int32) (shares6z : Nat → Int64) (over6z : Int64) (h : f_X6_above i1 behind6 shares6 over6 = some (shares6z, over6z)) : CV l D cI cJ yX6_above wsX6_above 0 0 [.ref h6, .int i1] (w6 cI cJ h6 labels6a guesses6a comes6a sizes6a words6a told6a behind6a shares6a start6a move6a show6a signs6a many6a bestPath6a nextStart6a nextMove6a nextShow6a thrown6 rows6 labels6 guesses6 comes6 sizes6 words6 up6 down6 weightAbove6 weightBelow6 told6 length6 behind6 shares6 over6 start6 move6 show6 signs6 many6 bestPath6 nextStart6 nextMove6 nextShow6) (w6 cI cJ h6 labels6a guesses6a comes6a sizes6a words6a told6a behind6a shares6a start6a move6a show6a signs6a many6a bestPath6a nextStart6a nextMove6a nextShow6a thrown6 rows6 labels6 guesses6 comes6 sizes6 words6 up6 down6 weightAbove6 weightBelow6 told6 length6 behind6 shares6z over6z start6 move6 show6 signs6 many6 bestPath6 nextStart6 nextMove6 nextShow6) := by
  refine entV (cc := cX6_above) (maxL := 6) (by decide) rfl (Nat.le_of_ble_eq_true rfl) ?_
  intro p e s m args below meth c ls A Q X hret
  obtain ⟨hx, hb, hml, hts, hown, hK, hA, hP, hD, hS, hl, hnm⟩ := X
  have hown : s.vm.findClass RX6 = some m.cls := hown
  have hl : lv_has ls 6 [(0, .ref h6), (1, .int i1)] := hl
  have hw1 : (Cond.fieldLink RX6 35 "CountLearnersModel" "behind" "[I").before args s = true := hts _ (by decide +kernel)
  have hinX6 : ∀ w ∈ wsX60, w ∈ wsX6_above := by decide +kernel
  have hw3 : (Cond.fieldLink RX6 38 "CountLearnersModel" "shares" "[J").before args s = true := hts _ (by decide +kernel)
  have hw4 : (Cond.constantLong RX6 148 (2)).before args s = true := hts _ (by decide +kernel)
  have hw5 : (Cond.fieldLink RX6 145 "CountLearnersModel" "over" "J").before args s = true := hts _ (by decide +kernel)
  unfold f_X6_above at h
  refine lv_iload_n hx hb dX6_above_0 rfl (lv_at hl 1 rfl) ?_
  refine lv_if_ne (tgt := 5) hx hb dX6_above_1 (by decide) (fun c_1 => ?_) (fun c_1 => ?_)
  · have h := it_n c_1 h
    refine lv_iconst (v := 0) hx hb dX6_above_5 (by decide) ?_
    refine lv_topi (fun x2_2 ex2_2 => ?_)
    have h := nm_s h x2_2 ex2_2
    refine lv_istore_n (lv' := [(2, .int x2_2), (0, .ref h6), (1, .int i1)]) hx hb dX6_above_6 rfl hl (by decide) rfl (fun ls hl => ?_)
    refine lv_lconst (v := 0) hx hb dX6_above_7 (by decide) ?_
    refine lv_topl (fun j3_3 ej3_3 => ?_)
    have h := nm_s h j3_3 ej3_3
    refine lv_lstore_n (lv' := [(3, .long j3_3), (2, .int x2_2), (0, .ref h6), (1, .int i1)]) hx hb dX6_above_8 rfl hl (by decide) rfl (fun ls hl => ?_)
    refine lv_iconst (v := 0) hx hb dX6_above_9 (by decide) ?_
    refine lv_topi (fun x5_4 ex5_4 => ?_)
    have h := nm_s h x5_4 ex5_4
    refine lv_istore (lv' := [(5, .int x5_4), (3, .long j3_3), (2, .int x2_2), (0, .ref h6), (1, .int i1)]) hx hb dX6_above_10 hl (by decide) rfl (fun ls hl => ?_)
    have L12 : ∀ (n : Nat) (y5_5 : Int32) (k3_6 : Int64) (y2_7 : Int32) (z5_8 : Int32) (z3_9 : Int64) (z2_10 : Int32), f_X6_above_L12 behind6 shares6 n y5_5 k3_6 y2_7 = some (z5_8, z3_9, z2_10) → ∀ (H : Heap) (locs : List Loc) (ls : Array Slot), va_P D vwK (w6 cI cJ h6 labels6a guesses6a comes6a sizes6a words6a told6a behind6a shares6a start6a move6a show6a signs6a many6a bestPath6a nextStart6a nextMove6a nextShow6a thrown6 rows6 labels6 guesses6 comes6 sizes6 words6 up6 down6 weightAbove6 weightBelow6 told6 length6 behind6 shares6 over6 start6 move6 show6 signs6 many6 bestPath6 nextStart6 nextMove6 nextShow6) H → va_D A (w6 cI cJ h6 labels6a guesses6a comes6a sizes6a words6a told6a behind6a shares6a start6a move6a show6a signs6a many6a bestPath6a nextStart6a nextMove6a nextShow6a thrown6 rows6 labels6 guesses6 comes6 sizes6 words6 up6 down6 weightAbove6 weightBelow6 told6 length6 behind6 shares6 over6 start6 move6 show6 signs6 many6 bestPath6 nextStart6 nextMove6 nextShow6) → va_S A s.heap H locs → lv_has ls 6 [(5, .int y5_5), (3, .long k3_6), (2, .int y2_7), (0, .ref h6), (1, .int i1)] → (∀ (H : Heap) (locs : List Loc) (ls : Array Slot), va_P D vwK (w6 cI cJ h6 labels6a guesses6a comes6a sizes6a words6a told6a behind6a shares6a start6a move6a show6a signs6a many6a bestPath6a nextStart6a nextMove6a nextShow6a thrown6 rows6 labels6 guesses6 comes6 sizes6 words6 up6 down6 weightAbove6 weightBelow6 told6 length6 behind6 shares6 over6 start6 move6 show6 signs6 many6 bestPath6 nextStart6 nextMove6 nextShow6) H → va_D A (w6 cI cJ h6 labels6a guesses6a comes6a sizes6a words6a told6a behind6a shares6a start6a move6a show6a signs6a many6a bestPath6a nextStart6a nextMove6a nextShow6a thrown6 rows6 labels6 guesses6 comes6 sizes6 words6 up6 down6 weightAbove6 weightBelow6 told6 length6 behind6 shares6 over6 start6 move6 show6 signs6 many6 bestPath6 nextStart6 nextMove6 nextShow6) → va_S A s.heap H locs → lv_has ls 6 [(3, .long z3_9), (2, .int z2_10), (0, .ref h6), (1, .int i1)] → W p l e (rmOf 0 0) s m args below meth c H locs 0 0 Q (F0 m 67 ls [])) → W p l e (rmOf 0 0) s m args below meth c H locs 0 0 Q (F0 m 12 ls []) := by
      intro n
      induction n with
      | zero => intro y5_5 k3_6 y2_7 z5_8 z3_9 z2_10 h; rw [f_X6_above_L12.eq_1] at h; cases h
      | succ n ih =>
        intro y5_5 k3_6 y2_7 z5_8 z3_9 z2_10 h H locs ls hP hD hS hl K
        rw [f_X6_above_L12.eq_2] at h
        refine lv_iload hx hb dX6_above_12 (lv_at hl 0 rfl) ?_
        refine lv_bipush (v := 8) hx hb dX6_above_14 (by decide) ?_
        refine lv_icmp_ge (tgt := 67) hx hb dX6_above_16 (by decide) (fun c_11 => ?_) (fun c_11 => ?_)
        · have h := it_p c_11 h
          cases h
          exact K _ _ _ hP hD hS (lv_sub hl [1, 2, 3, 4] rfl)
        · have h := it_n c_11 h
          refine lv_iload_n hx hb dX6_above_19 rfl (lv_at hl 2 rfl) ?_
          refine lv_aload_n hx hb dX6_above_20 rfl (lv_at hl 3 rfl) ?_
          refine va_get (D := D) (ci := 5) (v := .ref behind6a) (C := RX6) (T := TX6) (N := 25) hx hb hts hinX6 hown hK.1 hP 0 rfl rfl 13 (by decide) hw1 (fun _ h9 => h9) rfl dX6_above_21 ?_
          refine lv_iload hx hb dX6_above_24 (lv_at hl 0 rfl) ?_
          obtain ⟨hi_12, h⟩ := gA_s h
          refine va_iald hx hb hK.1 hP 7 0 rfl rfl hi_12 dX6_above_26 ?_
          refine lv_topi (fun v_13 ev_13 => ?_)
          have h := h v_13 ev_13
          refine lv_if_le (tgt := 34) hx hb dX6_above_27 (by decide) (fun c_14 => ?_) (fun c_14 => ?_)
          · have h := it_p c_14 h
            refine lv_iconst (v := 0) hx hb dX6_above_34 (by decide) ?_
            refine lv_iadd hx hb dX6_above_35 ?_
            refine lv_topi (fun x2_15 ex2_15 => ?_)
            have h := nm_s h x2_15 ex2_15
            refine lv_istore_n (lv' := [(2, .int x2_15), (5, .int y5_5), (3, .long k3_6), (0, .ref h6), (1, .int i1)]) hx hb dX6_above_36 rfl hl (by decide) rfl (fun ls hl => ?_)
            refine lv_lload_n hx hb dX6_above_37 rfl (lv_at hl 2 rfl) ?_
            refine lv_aload_n hx hb dX6_above_38 rfl (lv_at hl 3 rfl) ?_
            refine va_get (D := D) (ci := 5) (v := .ref behind6a) (C := RX6) (T := TX6) (N := 25) hx hb hts hinX6 hown hK.1 hP 0 rfl rfl 13 (by decide) hw1 (fun _ h9 => h9) rfl dX6_above_39 ?_
            refine lv_iload hx hb dX6_above_42 (lv_at hl 1 rfl) ?_
            obtain ⟨hi_16, h⟩ := gA_s h
            refine va_iald hx hb hK.1 hP 7 0 rfl rfl hi_16 dX6_above_44 ?_
            refine lv_topi (fun v_17 ev_17 => ?_)
            have h := h v_17 ev_17
            refine lv_if_le (tgt := 52) hx hb dX6_above_45 (by decide) (fun c_18 => ?_) (fun c_18 => ?_)
            · have h := it_p c_18 h
              refine lv_aload_n hx hb dX6_above_52 rfl (lv_at hl 3 rfl) ?_
              refine va_get (D := D) (ci := 5) (v := .ref shares6a) (C := RX6) (T := TX6) (N := 25) hx hb hts hinX6 hown hK.1 hP 0 rfl rfl 14 (by decide) hw3 (fun _ h9 => h9) rfl dX6_above_53 ?_
              refine lv_iload hx hb dX6_above_56 (lv_at hl 1 rfl) ?_
              obtain ⟨hi_19, h⟩ := gA_s h
              refine va_lald hx hb hK.1 hP 8 1 rfl rfl hi_19 dX6_above_58 ?_
              refine lv_topl (fun v_20 ev_20 => ?_)
              have h := h v_20 ev_20
              refine lv_ladd hx hb dX6_above_59 ?_
              refine lv_topl (fun j3_21 ej3_21 => ?_)
              have h := nm_s h j3_21 ej3_21
              refine lv_lstore_n (lv' := [(3, .long j3_21), (2, .int x2_15), (5, .int y5_5), (0, .ref h6), (1, .int i1)]) hx hb dX6_above_60 rfl hl (by decide) rfl (fun ls hl => ?_)
              obtain ⟨x5_22, ex5_22⟩ : ∃ z : Int32, z = y5_5 + 1 := ⟨_, rfl⟩
              have h := nm_s h x5_22 ex5_22
              refine lv_iinc (v := x5_22) (lv' := [(5, .int x5_22), (3, .long j3_21), (2, .int x2_15), (0, .ref h6), (1, .int i1)]) hx hb dX6_above_61 hl (k := 2) rfl (by rw [ex5_22]; rfl) (by decide) rfl (fun ls hl => ?_)
              refine lv_goto (tgt := 12) hx hb dX6_above_64 (by decide) ?_
              exact ih _ _ _ _ _ _ h _ _ _ hP hD hS (lv_sub hl [0, 1, 2, 3, 4] rfl) K
            · have h := it_n c_18 h
              refine lv_lconst (v := 0) hx hb dX6_above_48 (by decide) ?_
              refine lv_goto (tgt := 59) hx hb dX6_above_49 (by decide) ?_
              refine lv_ladd hx hb dX6_above_59 ?_
              refine lv_topl (fun j3_23 ej3_23 => ?_)
              have h := nm_s h j3_23 ej3_23
              refine lv_lstore_n (lv' := [(3, .long j3_23), (2, .int x2_15), (5, .int y5_5), (0, .ref h6), (1, .int i1)]) hx hb dX6_above_60 rfl hl (by decide) rfl (fun ls hl => ?_)
              obtain ⟨x5_24, ex5_24⟩ : ∃ z : Int32, z = y5_5 + 1 := ⟨_, rfl⟩
              have h := nm_s h x5_24 ex5_24
              refine lv_iinc (v := x5_24) (lv' := [(5, .int x5_24), (3, .long j3_23), (2, .int x2_15), (0, .ref h6), (1, .int i1)]) hx hb dX6_above_61 hl (k := 2) rfl (by rw [ex5_24]; rfl) (by decide) rfl (fun ls hl => ?_)
              refine lv_goto (tgt := 12) hx hb dX6_above_64 (by decide) ?_
              exact ih _ _ _ _ _ _ h _ _ _ hP hD hS (lv_sub hl [0, 1, 2, 3, 4] rfl) K
          · have h := it_n c_14 h
            refine lv_iconst (v := 1) hx hb dX6_above_30 (by decide) ?_
            refine lv_goto (tgt := 35) hx hb dX6_above_31 (by decide) ?_
            refine lv_iadd hx hb dX6_above_35 ?_
            refine lv_topi (fun x2_25 ex2_25 => ?_)
            have h := nm_s h x2_25 ex2_25
            refine lv_istore_n (lv' := [(2, .int x2_25), (5, .int y5_5), (3, .long k3_6), (0, .ref h6), (1, .int i1)]) hx hb dX6_above_36 rfl hl (by decide) rfl (fun ls hl => ?_)
            refine lv_lload_n hx hb dX6_above_37 rfl (lv_at hl 2 rfl) ?_
            refine lv_aload_n hx hb dX6_above_38 rfl (lv_at hl 3 rfl) ?_
            refine va_get (D := D) (ci := 5) (v := .ref behind6a) (C := RX6) (T := TX6) (N := 25) hx hb hts hinX6 hown hK.1 hP 0 rfl rfl 13 (by decide) hw1 (fun _ h9 => h9) rfl dX6_above_39 ?_
            refine lv_iload hx hb dX6_above_42 (lv_at hl 1 rfl) ?_
            obtain ⟨hi_26, h⟩ := gA_s h
            refine va_iald hx hb hK.1 hP 7 0 rfl rfl hi_26 dX6_above_44 ?_
            refine lv_topi (fun v_27 ev_27 => ?_)
            have h := h v_27 ev_27
            refine lv_if_le (tgt := 52) hx hb dX6_above_45 (by decide) (fun c_28 => ?_) (fun c_28 => ?_)
            · have h := it_p c_28 h
              refine lv_aload_n hx hb dX6_above_52 rfl (lv_at hl 3 rfl) ?_
              refine va_get (D := D) (ci := 5) (v := .ref shares6a) (C := RX6) (T := TX6) (N := 25) hx hb hts hinX6 hown hK.1 hP 0 rfl rfl 14 (by decide) hw3 (fun _ h9 => h9) rfl dX6_above_53 ?_
              refine lv_iload hx hb dX6_above_56 (lv_at hl 1 rfl) ?_
              obtain ⟨hi_29, h⟩ := gA_s h
              refine va_lald hx hb hK.1 hP 8 1 rfl rfl hi_29 dX6_above_58 ?_
              refine lv_topl (fun v_30 ev_30 => ?_)
              have h := h v_30 ev_30
              refine lv_ladd hx hb dX6_above_59 ?_
              refine lv_topl (fun j3_31 ej3_31 => ?_)
              have h := nm_s h j3_31 ej3_31
              refine lv_lstore_n (lv' := [(3, .long j3_31), (2, .int x2_25), (5, .int y5_5), (0, .ref h6), (1, .int i1)]) hx hb dX6_above_60 rfl hl (by decide) rfl (fun ls hl => ?_)
              obtain ⟨x5_32, ex5_32⟩ : ∃ z : Int32, z = y5_5 + 1 := ⟨_, rfl⟩
              have h := nm_s h x5_32 ex5_32
              refine lv_iinc (v := x5_32) (lv' := [(5, .int x5_32), (3, .long j3_31), (2, .int x2_25), (0, .ref h6), (1, .int i1)]) hx hb dX6_above_61 hl (k := 2) rfl (by rw [ex5_32]; rfl) (by decide) rfl (fun ls hl => ?_)
              refine lv_goto (tgt := 12) hx hb dX6_above_64 (by decide) ?_
              exact ih _ _ _ _ _ _ h _ _ _ hP hD hS (lv_sub hl [0, 1, 2, 3, 4] rfl) K
            · have h := it_n c_28 h
              refine lv_lconst (v := 0) hx hb dX6_above_48 (by decide) ?_
              refine lv_goto (tgt := 59) hx hb dX6_above_49 (by decide) ?_
              refine lv_ladd hx hb dX6_above_59 ?_
              refine lv_topl (fun j3_33 ej3_33 => ?_)
              have h := nm_s h j3_33 ej3_33
              refine lv_lstore_n (lv' := [(3, .long j3_33), (2, .int x2_25), (5, .int y5_5), (0, .ref h6), (1, .int i1)]) hx hb dX6_above_60 rfl hl (by decide) rfl (fun ls hl => ?_)
              obtain ⟨x5_34, ex5_34⟩ : ∃ z : Int32, z = y5_5 + 1 := ⟨_, rfl⟩
              have h := nm_s h x5_34 ex5_34
              refine lv_iinc (v := x5_34) (lv' := [(5, .int x5_34), (3, .long j3_33), (2, .int x2_25), (0, .ref h6), (1, .int i1)]) hx hb dX6_above_61 hl (k := 2) rfl (by rw [ex5_34]; rfl) (by decide) rfl (fun ls hl => ?_)
              refine lv_goto (tgt := 12) hx hb dX6_above_64 (by decide) ?_
              exact ih _ _ _ _ _ _ h _ _ _ hP hD hS (lv_sub hl [0, 1, 2, 3, 4] rfl) K
    obtain ⟨⟨z5_35, z3_36, z2_37⟩, hl_38, h⟩ := bd_s h
    refine L12 FU x5_4 j3_3 x2_2 _ _ _ hl_38 _ _ _ hP hD hS (lv_sub hl [0, 1, 2, 3, 4] rfl) (fun H locs ls hP hD hS hl => ?_)
    refine lv_iconst (v := 0) hx hb dX6_above_67 (by decide) ?_
    refine lv_topi (fun x5_39 ex5_39 => ?_)
    have h := nm_s h x5_39 ex5_39
    refine lv_istore (lv' := [(5, .int x5_39), (3, .long z3_36), (2, .int z2_37), (0, .ref h6), (1, .int i1)]) hx hb dX6_above_68 hl (by decide) rfl (fun ls hl => ?_)
    have L70 : ∀ (n : Nat) (y5_40 : Int32) (shares6_41 : Nat → Int64) (z5_42 : Int32) (shares6_43 : Nat → Int64), f_X6_above_L70 z3_36 z2_37 behind6 n y5_40 shares6_41 = some (z5_42, shares6_43) → ∀ (H : Heap) (locs : List Loc) (ls : Array Slot), va_P D vwK (w6 cI cJ h6 labels6a guesses6a comes6a sizes6a words6a told6a behind6a shares6a start6a move6a show6a signs6a many6a bestPath6a nextStart6a nextMove6a nextShow6a thrown6 rows6 labels6 guesses6 comes6 sizes6 words6 up6 down6 weightAbove6 weightBelow6 told6 length6 behind6 shares6_41 over6 start6 move6 show6 signs6 many6 bestPath6 nextStart6 nextMove6 nextShow6) H → va_D A (w6 cI cJ h6 labels6a guesses6a comes6a sizes6a words6a told6a behind6a shares6a start6a move6a show6a signs6a many6a bestPath6a nextStart6a nextMove6a nextShow6a thrown6 rows6 labels6 guesses6 comes6 sizes6 words6 up6 down6 weightAbove6 weightBelow6 told6 length6 behind6 shares6_41 over6 start6 move6 show6 signs6 many6 bestPath6 nextStart6 nextMove6 nextShow6) → va_S A s.heap H locs → lv_has ls 6 [(5, .int y5_40), (3, .long z3_36), (2, .int z2_37), (0, .ref h6), (1, .int i1)] → (∀ (H : Heap) (locs : List Loc) (ls : Array Slot), va_P D vwK (w6 cI cJ h6 labels6a guesses6a comes6a sizes6a words6a told6a behind6a shares6a start6a move6a show6a signs6a many6a bestPath6a nextStart6a nextMove6a nextShow6a thrown6 rows6 labels6 guesses6 comes6 sizes6 words6 up6 down6 weightAbove6 weightBelow6 told6 length6 behind6 shares6_43 over6 start6 move6 show6 signs6 many6 bestPath6 nextStart6 nextMove6 nextShow6) H → va_D A (w6 cI cJ h6 labels6a guesses6a comes6a sizes6a words6a told6a behind6a shares6a start6a move6a show6a signs6a many6a bestPath6a nextStart6a nextMove6a nextShow6a thrown6 rows6 labels6 guesses6 comes6 sizes6 words6 up6 down6 weightAbove6 weightBelow6 told6 length6 behind6 shares6_43 over6 start6 move6 show6 signs6 many6 bestPath6 nextStart6 nextMove6 nextShow6) → va_S A s.heap H locs → lv_has ls 6 [(3, .long z3_36), (2, .int z2_37), (0, .ref h6), (1, .int i1)] → W p l e (rmOf 0 0) s m args below meth c H locs 0 0 Q (F0 m 153 ls [])) → W p l e (rmOf 0 0) s m args below meth c H locs 0 0 Q (F0 m 70 ls []) := by
      intro n
      induction n with
      | zero => intro y5_40 shares6_41 z5_42 shares6_43 h; rw [f_X6_above_L70.eq_1] at h; cases h
      | succ n ih =>
        intro y5_40 shares6_41 z5_42 shares6_43 h H locs ls hP hD hS hl K
        rw [f_X6_above_L70.eq_2] at h
        refine lv_iload hx hb dX6_above_70 (lv_at hl 0 rfl) ?_
        refine lv_bipush (v := 8) hx hb dX6_above_72 (by decide) ?_
        refine lv_icmp_ge (tgt := 153) hx hb dX6_above_74 (by decide) (fun c_44 => ?_) (fun c_44 => ?_)
        · have h := it_p c_44 h
          cases h
          exact K _ _ _ hP hD hS (lv_sub hl [1, 2, 3, 4] rfl)
        · have h := it_n c_44 h
          refine lv_iload_n hx hb dX6_above_77 rfl (lv_at hl 2 rfl) ?_
          refine lv_bipush (v := 8) hx hb dX6_above_78 (by decide) ?_
          refine lv_icmp_ne (tgt := 101) hx hb dX6_above_80 (by decide) (fun c_45 => ?_) (fun c_45 => ?_)
          · have h := it_n c_45 h
            refine lv_aload_n hx hb dX6_above_101 rfl (lv_at hl 3 rfl) ?_
            refine va_get (D := D) (ci := 5) (v := .ref shares6a) (C := RX6) (T := TX6) (N := 25) hx hb hts hinX6 hown hK.1 hP 0 rfl rfl 14 (by decide) hw3 (fun _ h9 => h9) rfl dX6_above_102 ?_
            refine lv_iload hx hb dX6_above_105 (lv_at hl 0 rfl) ?_
            refine lv_aload_n hx hb dX6_above_107 rfl (lv_at hl 3 rfl) ?_
            refine va_get (D := D) (ci := 5) (v := .ref behind6a) (C := RX6) (T := TX6) (N := 25) hx hb hts hinX6 hown hK.1 hP 0 rfl rfl 13 (by decide) hw1 (fun _ h9 => h9) rfl dX6_above_108 ?_
            refine lv_iload hx hb dX6_above_111 (lv_at hl 0 rfl) ?_
            obtain ⟨hi_46, h⟩ := gA_s h
            refine va_iald hx hb hK.1 hP 7 0 rfl rfl hi_46 dX6_above_113 ?_
            refine lv_topi (fun v_47 ev_47 => ?_)
            have h := h v_47 ev_47
            refine lv_if_le (tgt := 136) hx hb dX6_above_114 (by decide) (fun c_48 => ?_) (fun c_48 => ?_)
            · have h := it_p c_48 h
              refine lv_iload_n hx hb dX6_above_136 rfl (lv_at hl 2 rfl) ?_
              refine lv_i2l (v := (Int32.toInt64 z2_37)) hx hb dX6_above_137 rfl ?_
              refine lv_aload_n hx hb dX6_above_138 rfl (lv_at hl 3 rfl) ?_
              refine va_get (D := D) (ci := 5) (v := .ref shares6a) (C := RX6) (T := TX6) (N := 25) hx hb hts hinX6 hown hK.1 hP 0 rfl rfl 14 (by decide) hw3 (fun _ h9 => h9) rfl dX6_above_139 ?_
              refine lv_iload hx hb dX6_above_142 (lv_at hl 0 rfl) ?_
              obtain ⟨hi_49, h⟩ := gA_s h
              refine va_lald hx hb hK.1 hP 8 1 rfl rfl hi_49 dX6_above_144 ?_
              refine lv_topl (fun v_50 ev_50 => ?_)
              have h := h v_50 ev_50
              refine lv_lmul hx hb dX6_above_145 ?_
              obtain ⟨hi_51, h⟩ := sL_s h
              refine va_last hx hb hK.1 hP hD hS 8 1 rfl rfl hi_51 dX6_above_146 (fun H locs hP hD hS => ?_)
              obtain ⟨shares6_52, eshares6_52⟩ : ∃ z, z = vp_updL shares6_41 (Int32.toNatClampNeg y5_40) ((Int32.toInt64 z2_37) * v_50) := ⟨_, rfl⟩
              have h := h shares6_52 eshares6_52
              rw [← eshares6_52] at hP hD
              have hP : va_P D vwK (w6 cI cJ h6 labels6a guesses6a comes6a sizes6a words6a told6a behind6a shares6a start6a move6a show6a signs6a many6a bestPath6a nextStart6a nextMove6a nextShow6a thrown6 rows6 labels6 guesses6 comes6 sizes6 words6 up6 down6 weightAbove6 weightBelow6 told6 length6 behind6 shares6_52 over6 start6 move6 show6 signs6 many6 bestPath6 nextStart6 nextMove6 nextShow6) H := hP
              have hD : va_D A (w6 cI cJ h6 labels6a guesses6a comes6a sizes6a words6a told6a behind6a shares6a start6a move6a show6a signs6a many6a bestPath6a nextStart6a nextMove6a nextShow6a thrown6 rows6 labels6 guesses6 comes6 sizes6 words6 up6 down6 weightAbove6 weightBelow6 told6 length6 behind6 shares6_52 over6 start6 move6 show6 signs6 many6 bestPath6 nextStart6 nextMove6 nextShow6) := hD
              obtain ⟨x5_53, ex5_53⟩ : ∃ z : Int32, z = y5_40 + 1 := ⟨_, rfl⟩
              have h := nm_s h x5_53 ex5_53
              refine lv_iinc (v := x5_53) (lv' := [(5, .int x5_53), (3, .long z3_36), (2, .int z2_37), (0, .ref h6), (1, .int i1)]) hx hb dX6_above_147 hl (k := 0) rfl (by rw [ex5_53]; rfl) (by decide) rfl (fun ls hl => ?_)
              refine lv_goto (tgt := 70) hx hb dX6_above_150 (by decide) ?_
              exact ih _ _ _ _ h _ _ _ hP hD hS (lv_sub hl [0, 1, 2, 3, 4] rfl) K
            · have h := it_n c_48 h
              refine lv_ldc2 (v := 2) hx hb hown hw4 dX6_above_117 ?_
              refine lv_aload_n hx hb dX6_above_120 rfl (lv_at hl 3 rfl) ?_
              refine va_get (D := D) (ci := 5) (v := .ref behind6a) (C := RX6) (T := TX6) (N := 25) hx hb hts hinX6 hown hK.1 hP 0 rfl rfl 13 (by decide) hw1 (fun _ h9 => h9) rfl dX6_above_121 ?_
              refine lv_iload hx hb dX6_above_124 (lv_at hl 0 rfl) ?_
              obtain ⟨hi_54, h⟩ := gA_s h
              refine va_iald hx hb hK.1 hP 7 0 rfl rfl hi_54 dX6_above_126 ?_
              refine lv_topi (fun v_55 ev_55 => ?_)
              have h := h v_55 ev_55
              refine lv_i2l (v := (Int32.toInt64 v_55)) hx hb dX6_above_127 rfl ?_
              refine lv_lmul hx hb dX6_above_128 ?_
              refine lv_lconst (v := 1) hx hb dX6_above_129 (by decide) ?_
              refine lv_lsub hx hb dX6_above_130 ?_
              refine lv_lload_n hx hb dX6_above_131 rfl (lv_at hl 1 rfl) ?_
              refine lv_lmul hx hb dX6_above_132 ?_
              refine lv_goto (tgt := 146) hx hb dX6_above_133 (by decide) ?_
              obtain ⟨hi_56, h⟩ := sL_s h
              refine va_last hx hb hK.1 hP hD hS 8 1 rfl rfl hi_56 dX6_above_146 (fun H locs hP hD hS => ?_)
              obtain ⟨shares6_57, eshares6_57⟩ : ∃ z, z = vp_updL shares6_41 (Int32.toNatClampNeg y5_40) (((2 * (Int32.toInt64 v_55)) - 1) * z3_36) := ⟨_, rfl⟩
              have h := h shares6_57 eshares6_57
              rw [← eshares6_57] at hP hD
              have hP : va_P D vwK (w6 cI cJ h6 labels6a guesses6a comes6a sizes6a words6a told6a behind6a shares6a start6a move6a show6a signs6a many6a bestPath6a nextStart6a nextMove6a nextShow6a thrown6 rows6 labels6 guesses6 comes6 sizes6 words6 up6 down6 weightAbove6 weightBelow6 told6 length6 behind6 shares6_57 over6 start6 move6 show6 signs6 many6 bestPath6 nextStart6 nextMove6 nextShow6) H := hP
              have hD : va_D A (w6 cI cJ h6 labels6a guesses6a comes6a sizes6a words6a told6a behind6a shares6a start6a move6a show6a signs6a many6a bestPath6a nextStart6a nextMove6a nextShow6a thrown6 rows6 labels6 guesses6 comes6 sizes6 words6 up6 down6 weightAbove6 weightBelow6 told6 length6 behind6 shares6_57 over6 start6 move6 show6 signs6 many6 bestPath6 nextStart6 nextMove6 nextShow6) := hD
              obtain ⟨x5_58, ex5_58⟩ : ∃ z : Int32, z = y5_40 + 1 := ⟨_, rfl⟩
              have h := nm_s h x5_58 ex5_58
              refine lv_iinc (v := x5_58) (lv' := [(5, .int x5_58), (3, .long z3_36), (2, .int z2_37), (0, .ref h6), (1, .int i1)]) hx hb dX6_above_147 hl (k := 0) rfl (by rw [ex5_58]; rfl) (by decide) rfl (fun ls hl => ?_)
              refine lv_goto (tgt := 70) hx hb dX6_above_150 (by decide) ?_
              exact ih _ _ _ _ h _ _ _ hP hD hS (lv_sub hl [0, 1, 2, 3, 4] rfl) K
          · have h := it_p c_45 h
            refine lv_aload_n hx hb dX6_above_83 rfl (lv_at hl 3 rfl) ?_
            refine va_get (D := D) (ci := 5) (v := .ref shares6a) (C := RX6) (T := TX6) (N := 25) hx hb hts hinX6 hown hK.1 hP 0 rfl rfl 14 (by decide) hw3 (fun _ h9 => h9) rfl dX6_above_84 ?_
            refine lv_iload hx hb dX6_above_87 (lv_at hl 0 rfl) ?_
            refine lv_aload_n hx hb dX6_above_89 rfl (lv_at hl 3 rfl) ?_
            refine va_get (D := D) (ci := 5) (v := .ref behind6a) (C := RX6) (T := TX6) (N := 25) hx hb hts hinX6 hown hK.1 hP 0 rfl rfl 13 (by decide) hw1 (fun _ h9 => h9) rfl dX6_above_90 ?_
            refine lv_iload hx hb dX6_above_93 (lv_at hl 0 rfl) ?_
            obtain ⟨hi_59, h⟩ := gA_s h
            refine va_iald hx hb hK.1 hP 7 0 rfl rfl hi_59 dX6_above_95 ?_
            refine lv_topi (fun v_60 ev_60 => ?_)
            have h := h v_60 ev_60
            refine lv_i2l (v := (Int32.toInt64 v_60)) hx hb dX6_above_96 rfl ?_
            obtain ⟨hi_61, h⟩ := sL_s h
            refine va_last hx hb hK.1 hP hD hS 8 1 rfl rfl hi_61 dX6_above_97 (fun H locs hP hD hS => ?_)
            obtain ⟨shares6_62, eshares6_62⟩ : ∃ z, z = vp_updL shares6_41 (Int32.toNatClampNeg y5_40) (Int32.toInt64 v_60) := ⟨_, rfl⟩
            have h := h shares6_62 eshares6_62
            rw [← eshares6_62] at hP hD
            have hP : va_P D vwK (w6 cI cJ h6 labels6a guesses6a comes6a sizes6a words6a told6a behind6a shares6a start6a move6a show6a signs6a many6a bestPath6a nextStart6a nextMove6a nextShow6a thrown6 rows6 labels6 guesses6 comes6 sizes6 words6 up6 down6 weightAbove6 weightBelow6 told6 length6 behind6 shares6_62 over6 start6 move6 show6 signs6 many6 bestPath6 nextStart6 nextMove6 nextShow6) H := hP
            have hD : va_D A (w6 cI cJ h6 labels6a guesses6a comes6a sizes6a words6a told6a behind6a shares6a start6a move6a show6a signs6a many6a bestPath6a nextStart6a nextMove6a nextShow6a thrown6 rows6 labels6 guesses6 comes6 sizes6 words6 up6 down6 weightAbove6 weightBelow6 told6 length6 behind6 shares6_62 over6 start6 move6 show6 signs6 many6 bestPath6 nextStart6 nextMove6 nextShow6) := hD
            refine lv_goto (tgt := 147) hx hb dX6_above_98 (by decide) ?_
            obtain ⟨x5_63, ex5_63⟩ : ∃ z : Int32, z = y5_40 + 1 := ⟨_, rfl⟩
            have h := nm_s h x5_63 ex5_63
            refine lv_iinc (v := x5_63) (lv' := [(5, .int x5_63), (3, .long z3_36), (2, .int z2_37), (0, .ref h6), (1, .int i1)]) hx hb dX6_above_147 hl (k := 0) rfl (by rw [ex5_63]; rfl) (by decide) rfl (fun ls hl => ?_)
            refine lv_goto (tgt := 70) hx hb dX6_above_150 (by decide) ?_
            exact ih _ _ _ _ h _ _ _ hP hD hS (lv_sub hl [0, 1, 2, 3, 4] rfl) K
    obtain ⟨⟨z5_64, shares6_65⟩, hl_66, h⟩ := bd_s h
    refine L70 FU x5_39 shares6 _ _ hl_66 _ _ _ hP hD hS (lv_sub hl [0, 1, 2, 3, 4] rfl) (fun H locs ls hP hD hS hl => ?_)
    refine lv_aload_n hx hb dX6_above_153 rfl (lv_at hl 2 rfl) ?_
    refine lv_iload_n hx hb dX6_above_154 rfl (lv_at hl 1 rfl) ?_
    refine lv_bipush (v := 8) hx hb dX6_above_155 (by decide) ?_
    refine lv_icmp_ne (tgt := 165) hx hb dX6_above_157 (by decide) (fun c_67 => ?_) (fun c_67 => ?_)
    · have h := it_n c_67 h
      refine lv_ldc2 (v := 2) hx hb hown hw4 dX6_above_165 ?_
      refine lv_iload_n hx hb dX6_above_168 rfl (lv_at hl 3 rfl) ?_
      refine lv_i2l (v := (Int32.toInt64 i1)) hx hb dX6_above_169 rfl ?_
      refine lv_lmul hx hb dX6_above_170 ?_
      refine lv_lload_n hx hb dX6_above_171 rfl (lv_at hl 0 rfl) ?_
      refine lv_lmul hx hb dX6_above_172 ?_
      refine lv_topl (fun over6_68 eover6_68 => ?_)
      have h := nm_s h over6_68 eover6_68
      refine va_put (D := D) (ci := 5) (v := .long over6_68) (ty := .long) (C := RX6) (T := TX6) (N := 25) hx hb hts hinX6 tyX6 tyX6_ok nmX6 hown hK.1 hP hD hS 0 rfl rfl 15 (by decide) hw5 (fun _ h9 => h9) rfl (by decide +kernel) rfl rfl (Nat.le_of_ble_eq_true rfl) dX6_above_173 (fun H locs hP hD hS => ?_)
      have hP : va_P D vwK (w6 cI cJ h6 labels6a guesses6a comes6a sizes6a words6a told6a behind6a shares6a start6a move6a show6a signs6a many6a bestPath6a nextStart6a nextMove6a nextShow6a thrown6 rows6 labels6 guesses6 comes6 sizes6 words6 up6 down6 weightAbove6 weightBelow6 told6 length6 behind6 shares6_65 over6_68 start6 move6 show6 signs6 many6 bestPath6 nextStart6 nextMove6 nextShow6) H := hP
      have hD : va_D A (w6 cI cJ h6 labels6a guesses6a comes6a sizes6a words6a told6a behind6a shares6a start6a move6a show6a signs6a many6a bestPath6a nextStart6a nextMove6a nextShow6a thrown6 rows6 labels6 guesses6 comes6 sizes6 words6 up6 down6 weightAbove6 weightBelow6 told6 length6 behind6 shares6_65 over6_68 start6 move6 show6 signs6 many6 bestPath6 nextStart6 nextMove6 nextShow6) := hD
      cases h
      exact hret _ _ _ _ hP hD hS dX6_above_176
    · have h := it_p c_67 h
      refine lv_iload_n hx hb dX6_above_160 rfl (lv_at hl 3 rfl) ?_
      refine lv_i2l (v := (Int32.toInt64 i1)) hx hb dX6_above_161 rfl ?_
      refine lv_goto (tgt := 173) hx hb dX6_above_162 (by decide) ?_
      refine lv_topl (fun over6_69 eover6_69 => ?_)
      have h := nm_s h over6_69 eover6_69
      refine va_put (D := D) (ci := 5) (v := .long over6_69) (ty := .long) (C := RX6) (T := TX6) (N := 25) hx hb hts hinX6 tyX6 tyX6_ok nmX6 hown hK.1 hP hD hS 0 rfl rfl 15 (by decide) hw5 (fun _ h9 => h9) rfl (by decide +kernel) rfl rfl (Nat.le_of_ble_eq_true rfl) dX6_above_173 (fun H locs hP hD hS => ?_)
      have hP : va_P D vwK (w6 cI cJ h6 labels6a guesses6a comes6a sizes6a words6a told6a behind6a shares6a start6a move6a show6a signs6a many6a bestPath6a nextStart6a nextMove6a nextShow6a thrown6 rows6 labels6 guesses6 comes6 sizes6 words6 up6 down6 weightAbove6 weightBelow6 told6 length6 behind6 shares6_65 over6_69 start6 move6 show6 signs6 many6 bestPath6 nextStart6 nextMove6 nextShow6) H := hP
      have hD : va_D A (w6 cI cJ h6 labels6a guesses6a comes6a sizes6a words6a told6a behind6a shares6a start6a move6a show6a signs6a many6a bestPath6a nextStart6a nextMove6a nextShow6a thrown6 rows6 labels6 guesses6 comes6 sizes6 words6 up6 down6 weightAbove6 weightBelow6 told6 length6 behind6 shares6_65 over6_69 start6 move6 show6 signs6 many6 bestPath6 nextStart6 nextMove6 nextShow6) := hD
      cases h
      exact hret _ _ _ _ hP hD hS dX6_above_176
  · have h := it_p c_1 h
    cases h
    exact hret _ _ _ _ hP hD hS dX6_above_4
def f_X6_table (i1 : Int32) (i2 : Int32) (told6 : Nat → Int32) (length6 : Int32) (behind6 : Nat → Int32) (shares6 : Nat → Int64) (over6 : Int64) : Option ((Nat → Int32) × (Nat → Int64) × Int64) :=
  Option.bind (f_X6_first told6 length6 shares6 over6) fun (shares6_1, over6_2) =>
  if i2 = (-1) then
    if i1 = (-1) then
      some (behind6, shares6_1, over6_2)
    else
      Option.bind (f_X6_count i1 i2 told6 length6 behind6) fun (r_6, behind6_7) =>
      Option.bind (f_X6_above r_6 behind6_7 shares6_1 over6_2) fun (shares6_9, over6_10) =>
      some (behind6_7, shares6_9, over6_10)
  else
    Option.bind (f_X6_count (-1) i2 told6 length6 behind6) fun (r_12, behind6_13) =>
    Option.bind (f_X6_above r_12 behind6_13 shares6_1 over6_2) fun (shares6_15, over6_16) =>
    if i1 = (-1) then
      some (behind6_13, shares6_15, over6_16)
    else
      Option.bind (f_X6_count i1 i2 told6 length6 behind6_13) fun (r_19, behind6_20) =>
      Option.bind (f_X6_above r_19 behind6_20 shares6_15 over6_16) fun (shares6_22, over6_23) =>
      some (behind6_20, shares6_22, over6_23)
set_option maxHeartbeats 4000000 in
set_option maxRecDepth 100000 in
theorem c_X6_table (l : Launch) (D : va_G) (cI cJ : ClassId) (h6 labels6a guesses6a comes6a sizes6a words6a told6a behind6a shares6a start6a move6a show6a signs6a many6a bestPath6a nextStart6a nextMove6a nextShow6a : Nat) (thrown6 : Int32) (rows6 : Int32) (labels6 : Nat → Int32) (guesses6 : Nat → Int32) (comes6 : Nat → Int32) (sizes6 : Nat → Int32) (words6 : Nat → Int32) (up6 : Int32) (down6 : Int32) (weightAbove6 : Int64) (weightBelow6 : Int64) (told6 : Nat → Int32) (length6 : Int32) (behind6 : Nat → Int32) (shares6 : Nat → Int64) (over6 : Int64) (start6 : Nat → Int32) (move6 : Nat → Int32) (show6 : Nat → Int32) (signs6 : Nat → Int32) (many6 : Nat → Int32) (bestPath6 : Nat → Int32) (nextStart6 : Nat → Int32) (nextMove6 : Nat → Int32) (nextShow6 : Nat → Int32) (i1 : Int32) (i2 : Int32) (behind6z : Nat → Int32) (shares6z : Nat → Int64) (over6z : Int64) (h : f_X6_table i1 i2 told6 length6 behind6 shares6 over6 = some (behind6z, shares6z, over6z)) : CV l D cI cJ yX6_table wsX6_table 1 25 [.ref h6, .int i1, .int i2] (w6 cI cJ h6 labels6a guesses6a comes6a sizes6a words6a told6a behind6a shares6a start6a move6a show6a signs6a many6a bestPath6a nextStart6a nextMove6a nextShow6a thrown6 rows6 labels6 guesses6 comes6 sizes6 words6 up6 down6 weightAbove6 weightBelow6 told6 length6 behind6 shares6 over6 start6 move6 show6 signs6 many6 bestPath6 nextStart6 nextMove6 nextShow6) (w6 cI cJ h6 labels6a guesses6a comes6a sizes6a words6a told6a behind6a shares6a start6a move6a show6a signs6a many6a bestPath6a nextStart6a nextMove6a nextShow6a thrown6 rows6 labels6 guesses6 comes6 sizes6 words6 up6 down6 weightAbove6 weightBelow6 told6 length6 behind6z shares6z over6z start6 move6 show6 signs6 many6 bestPath6 nextStart6 nextMove6 nextShow6) := by
  refine entV (cc := cX6_table) (maxL := 3) (by decide) rfl (Nat.le_of_ble_eq_true rfl) ?_
  intro p e s m args below meth c ls A Q X hret
  obtain ⟨hx, hb, hml, hts, hown, hK, hA, hP, hD, hS, hl, hnm⟩ := X
  have hown : s.vm.findClass RX6 = some m.cls := hown
  have hl : lv_has ls 3 [(0, .ref h6), (1, .int i1), (2, .int i2)] := hl
  unfold f_X6_table at h
  refine lv_aload_n hx hb dX6_table_0 rfl (lv_at hl 0 rfl) ?_
  obtain ⟨⟨shares6_1, over6_2⟩, hc_3, h⟩ := bd_s h
  refine callTv (As := []) (rest := []) ⟨hx, hb, hml, hown, hts⟩ (c_X6_first l D cI cJ h6 labels6a guesses6a comes6a sizes6a words6a told6a behind6a shares6a start6a move6a show6a signs6a many6a bestPath6a nextStart6a nextMove6a nextShow6a thrown6 rows6 labels6 guesses6 comes6 sizes6 words6 up6 down6 weightAbove6 weightBelow6 told6 length6 behind6 shares6 over6 start6 move6 show6 signs6 many6 bestPath6 nextStart6 nextMove6 nextShow6 shares6_1 over6_2 hc_3) (cwV 0 hts gX6_table_X6_first rfl rfl rfl (by decide +kernel) ⟨Nat.le_of_ble_eq_true rfl, Nat.le_of_ble_eq_true rfl⟩) hK hP hD hS hA 0 5 rfl rfl rfl rfl hl.1 rfl (Nat.le_of_ble_eq_true rfl) dX6_table_1 ⟨Nat.zero_le _, Nat.zero_le _⟩ (fun H locs hP hD hS => ?_)
  refine lv_iload_n hx hb dX6_table_4 rfl (lv_at hl 2 rfl) ?_
  refine lv_iconst (v := (-1)) hx hb dX6_table_5 (by decide) ?_
  refine lv_icmp_eq (tgt := 19) hx hb dX6_table_6 (by decide) (fun c_4 => ?_) (fun c_4 => ?_)
  · have h := it_p c_4 h
    refine lv_iload_n hx hb dX6_table_19 rfl (lv_at hl 1 rfl) ?_
    refine lv_iconst (v := (-1)) hx hb dX6_table_20 (by decide) ?_
    refine lv_icmp_eq (tgt := 34) hx hb dX6_table_21 (by decide) (fun c_5 => ?_) (fun c_5 => ?_)
    · have h := it_p c_5 h
      cases h
      exact hret _ _ _ _ hP hD hS dX6_table_34
    · have h := it_n c_5 h
      refine lv_aload_n hx hb dX6_table_24 rfl (lv_at hl 0 rfl) ?_
      refine lv_aload_n hx hb dX6_table_25 rfl (lv_at hl 0 rfl) ?_
      refine lv_iload_n hx hb dX6_table_26 rfl (lv_at hl 1 rfl) ?_
      refine lv_iload_n hx hb dX6_table_27 rfl (lv_at hl 2 rfl) ?_
      obtain ⟨⟨r_6, behind6_7⟩, hc_8, h⟩ := bd_s h
      refine callTi (As := [.int i1, .int i2]) (rest := [.ref h6]) ⟨hx, hb, hml, hown, hts⟩ (c_X6_count l D cI cJ h6 labels6a guesses6a comes6a sizes6a words6a told6a behind6a shares6a start6a move6a show6a signs6a many6a bestPath6a nextStart6a nextMove6a nextShow6a thrown6 rows6 labels6 guesses6 comes6 sizes6 words6 up6 down6 weightAbove6 weightBelow6 told6 length6 behind6 shares6_1 over6_2 start6 move6 show6 signs6 many6 bestPath6 nextStart6 nextMove6 nextShow6 i1 i2 r_6 behind6_7 hc_8) (cwV 2 hts gX6_table_X6_count rfl rfl rfl (by decide +kernel) ⟨Nat.le_of_ble_eq_true rfl, Nat.le_of_ble_eq_true rfl⟩) hK hP hD hS hA 0 5 rfl rfl rfl rfl hl.1 rfl (Nat.le_of_ble_eq_true rfl) dX6_table_28 ⟨Nat.zero_le _, Nat.zero_le _⟩ (fun H locs hP hD hS => ?_)
      obtain ⟨⟨shares6_9, over6_10⟩, hc_11, h⟩ := bd_s h
      refine callTv (As := [.int r_6]) (rest := []) ⟨hx, hb, hml, hown, hts⟩ (c_X6_above l D cI cJ h6 labels6a guesses6a comes6a sizes6a words6a told6a behind6a shares6a start6a move6a show6a signs6a many6a bestPath6a nextStart6a nextMove6a nextShow6a thrown6 rows6 labels6 guesses6 comes6 sizes6 words6 up6 down6 weightAbove6 weightBelow6 told6 length6 behind6_7 shares6_1 over6_2 start6 move6 show6 signs6 many6 bestPath6 nextStart6 nextMove6 nextShow6 r_6 shares6_9 over6_10 hc_11) (cwV 1 hts gX6_table_X6_above rfl rfl rfl (by decide +kernel) ⟨Nat.le_of_ble_eq_true rfl, Nat.le_of_ble_eq_true rfl⟩) hK hP hD hS hA 0 5 rfl rfl rfl rfl hl.1 rfl (Nat.le_of_ble_eq_true rfl) dX6_table_31 ⟨Nat.zero_le _, Nat.zero_le _⟩ (fun H locs hP hD hS => ?_)
      cases h
      exact hret _ _ _ _ hP hD hS dX6_table_34
  · have h := it_n c_4 h
    refine lv_aload_n hx hb dX6_table_9 rfl (lv_at hl 0 rfl) ?_
    refine lv_aload_n hx hb dX6_table_10 rfl (lv_at hl 0 rfl) ?_
    refine lv_iconst (v := (-1)) hx hb dX6_table_11 (by decide) ?_
    refine lv_iload_n hx hb dX6_table_12 rfl (lv_at hl 2 rfl) ?_
    obtain ⟨⟨r_12, behind6_13⟩, hc_14, h⟩ := bd_s h
    refine callTi (As := [.int (-1), .int i2]) (rest := [.ref h6]) ⟨hx, hb, hml, hown, hts⟩ (c_X6_count l D cI cJ h6 labels6a guesses6a comes6a sizes6a words6a told6a behind6a shares6a start6a move6a show6a signs6a many6a bestPath6a nextStart6a nextMove6a nextShow6a thrown6 rows6 labels6 guesses6 comes6 sizes6 words6 up6 down6 weightAbove6 weightBelow6 told6 length6 behind6 shares6_1 over6_2 start6 move6 show6 signs6 many6 bestPath6 nextStart6 nextMove6 nextShow6 (-1) i2 r_12 behind6_13 hc_14) (cwV 2 hts gX6_table_X6_count rfl rfl rfl (by decide +kernel) ⟨Nat.le_of_ble_eq_true rfl, Nat.le_of_ble_eq_true rfl⟩) hK hP hD hS hA 0 5 rfl rfl rfl rfl hl.1 rfl (Nat.le_of_ble_eq_true rfl) dX6_table_13 ⟨Nat.zero_le _, Nat.zero_le _⟩ (fun H locs hP hD hS => ?_)
    obtain ⟨⟨shares6_15, over6_16⟩, hc_17, h⟩ := bd_s h
    refine callTv (As := [.int r_12]) (rest := []) ⟨hx, hb, hml, hown, hts⟩ (c_X6_above l D cI cJ h6 labels6a guesses6a comes6a sizes6a words6a told6a behind6a shares6a start6a move6a show6a signs6a many6a bestPath6a nextStart6a nextMove6a nextShow6a thrown6 rows6 labels6 guesses6 comes6 sizes6 words6 up6 down6 weightAbove6 weightBelow6 told6 length6 behind6_13 shares6_1 over6_2 start6 move6 show6 signs6 many6 bestPath6 nextStart6 nextMove6 nextShow6 r_12 shares6_15 over6_16 hc_17) (cwV 1 hts gX6_table_X6_above rfl rfl rfl (by decide +kernel) ⟨Nat.le_of_ble_eq_true rfl, Nat.le_of_ble_eq_true rfl⟩) hK hP hD hS hA 0 5 rfl rfl rfl rfl hl.1 rfl (Nat.le_of_ble_eq_true rfl) dX6_table_16 ⟨Nat.zero_le _, Nat.zero_le _⟩ (fun H locs hP hD hS => ?_)
    refine lv_iload_n hx hb dX6_table_19 rfl (lv_at hl 1 rfl) ?_
    refine lv_iconst (v := (-1)) hx hb dX6_table_20 (by decide) ?_
    refine lv_icmp_eq (tgt := 34) hx hb dX6_table_21 (by decide) (fun c_18 => ?_) (fun c_18 => ?_)
    · have h := it_p c_18 h
      cases h
      exact hret _ _ _ _ hP hD hS dX6_table_34
    · have h := it_n c_18 h
      refine lv_aload_n hx hb dX6_table_24 rfl (lv_at hl 0 rfl) ?_
      refine lv_aload_n hx hb dX6_table_25 rfl (lv_at hl 0 rfl) ?_
      refine lv_iload_n hx hb dX6_table_26 rfl (lv_at hl 1 rfl) ?_
      refine lv_iload_n hx hb dX6_table_27 rfl (lv_at hl 2 rfl) ?_
      obtain ⟨⟨r_19, behind6_20⟩, hc_21, h⟩ := bd_s h
      refine callTi (As := [.int i1, .int i2]) (rest := [.ref h6]) ⟨hx, hb, hml, hown, hts⟩ (c_X6_count l D cI cJ h6 labels6a guesses6a comes6a sizes6a words6a told6a behind6a shares6a start6a move6a show6a signs6a many6a bestPath6a nextStart6a nextMove6a nextShow6a thrown6 rows6 labels6 guesses6 comes6 sizes6 words6 up6 down6 weightAbove6 weightBelow6 told6 length6 behind6_13 shares6_15 over6_16 start6 move6 show6 signs6 many6 bestPath6 nextStart6 nextMove6 nextShow6 i1 i2 r_19 behind6_20 hc_21) (cwV 2 hts gX6_table_X6_count rfl rfl rfl (by decide +kernel) ⟨Nat.le_of_ble_eq_true rfl, Nat.le_of_ble_eq_true rfl⟩) hK hP hD hS hA 0 5 rfl rfl rfl rfl hl.1 rfl (Nat.le_of_ble_eq_true rfl) dX6_table_28 ⟨Nat.zero_le _, Nat.zero_le _⟩ (fun H locs hP hD hS => ?_)
      obtain ⟨⟨shares6_22, over6_23⟩, hc_24, h⟩ := bd_s h
      refine callTv (As := [.int r_19]) (rest := []) ⟨hx, hb, hml, hown, hts⟩ (c_X6_above l D cI cJ h6 labels6a guesses6a comes6a sizes6a words6a told6a behind6a shares6a start6a move6a show6a signs6a many6a bestPath6a nextStart6a nextMove6a nextShow6a thrown6 rows6 labels6 guesses6 comes6 sizes6 words6 up6 down6 weightAbove6 weightBelow6 told6 length6 behind6_20 shares6_15 over6_16 start6 move6 show6 signs6 many6 bestPath6 nextStart6 nextMove6 nextShow6 r_19 shares6_22 over6_23 hc_24) (cwV 1 hts gX6_table_X6_above rfl rfl rfl (by decide +kernel) ⟨Nat.le_of_ble_eq_true rfl, Nat.le_of_ble_eq_true rfl⟩) hK hP hD hS hA 0 5 rfl rfl rfl rfl hl.1 rfl (Nat.le_of_ble_eq_true rfl) dX6_table_31 ⟨Nat.zero_le _, Nat.zero_le _⟩ (fun H locs hP hD hS => ?_)
      cases h
      exact hret _ _ _ _ hP hD hS dX6_table_34
def f_X6_isTable (i0 : Int32) (i1 : Int32) : Option (Int32) :=
  Option.bind (f_X6_within i0 (-1) 7) fun r_1 =>
  if r_1 = 0 then
    some 0
  else
    Option.bind (f_X6_within i1 (-1) 7) fun r_4 =>
    if r_4 = 0 then
      some 0
    else
      if i1 = (-1) then
        if i0 = (-1) then
          some 1
        else
          some 0
      else
        some 1
set_option maxHeartbeats 4000000 in
set_option maxRecDepth 100000 in
theorem c_X6_isTable (l : Launch) (D : va_G) (cI cJ : ClassId) (i0 : Int32) (i1 : Int32) (ret9 : Int32) (h : f_X6_isTable i0 i1 = some ret9) : CI l D cI cJ yX6_isTable wsX6_isTable 1 22 [.int i0, .int i1] [] [] ret9 := by
  refine entZ (cc := cX6_isTable) (maxL := 2) (by decide) rfl (Nat.le_of_ble_eq_true rfl) ?_
  intro p e s m args below meth c ls A Q X hret
  obtain ⟨hx, hb, hml, hts, hown, hK, hA, hP, hD, hS, hl, hnm⟩ := X
  have hown : s.vm.findClass RX6 = some m.cls := hown
  have hl : lv_has ls 2 [(0, .int i0), (1, .int i1)] := hl
  unfold f_X6_isTable at h
  refine lv_iload_n hx hb dX6_isTable_0 rfl (lv_at hl 0 rfl) ?_
  refine lv_iconst (v := (-1)) hx hb dX6_isTable_1 (by decide) ?_
  refine lv_bipush (v := 7) hx hb dX6_isTable_2 (by decide) ?_
  obtain ⟨r_1, hc_2, h⟩ := bd_s h
  refine callPi (As := [.int i0, .int (-1), .int 7]) (rest := []) ⟨hx, hb, hml, hown, hts⟩ (c_X6_within l D cI cJ i0 (-1) 7 r_1 hc_2) (va_cwS 3 hts gX6_isTable_X6_within rfl rfl rfl (by decide +kernel) ⟨Nat.le_of_ble_eq_true rfl, Nat.le_of_ble_eq_true rfl⟩) hK hP hD hS hA rfl hl.1 rfl (Nat.le_of_ble_eq_true rfl) dX6_isTable_4 ⟨Nat.zero_le _, Nat.zero_le _⟩ (fun H locs hP hD hS => ?_)
  refine lv_if_eq (tgt := 34) hx hb dX6_isTable_7 (by decide) (fun c_3 => ?_) (fun c_3 => ?_)
  · have h := it_p c_3 h
    refine lv_iconst (v := 0) hx hb dX6_isTable_34 (by decide) ?_
    cases h
    exact hret _ _ _ _ (Or.inl rfl) hP hD hS dX6_isTable_35
  · have h := it_n c_3 h
    refine lv_iload_n hx hb dX6_isTable_10 rfl (lv_at hl 1 rfl) ?_
    refine lv_iconst (v := (-1)) hx hb dX6_isTable_11 (by decide) ?_
    refine lv_bipush (v := 7) hx hb dX6_isTable_12 (by decide) ?_
    obtain ⟨r_4, hc_5, h⟩ := bd_s h
    refine callPi (As := [.int i1, .int (-1), .int 7]) (rest := []) ⟨hx, hb, hml, hown, hts⟩ (c_X6_within l D cI cJ i1 (-1) 7 r_4 hc_5) (va_cwS 3 hts gX6_isTable_X6_within rfl rfl rfl (by decide +kernel) ⟨Nat.le_of_ble_eq_true rfl, Nat.le_of_ble_eq_true rfl⟩) hK hP hD hS hA rfl hl.1 rfl (Nat.le_of_ble_eq_true rfl) dX6_isTable_14 ⟨Nat.zero_le _, Nat.zero_le _⟩ (fun H locs hP hD hS => ?_)
    refine lv_if_eq (tgt := 34) hx hb dX6_isTable_17 (by decide) (fun c_6 => ?_) (fun c_6 => ?_)
    · have h := it_p c_6 h
      refine lv_iconst (v := 0) hx hb dX6_isTable_34 (by decide) ?_
      cases h
      exact hret _ _ _ _ (Or.inl rfl) hP hD hS dX6_isTable_35
    · have h := it_n c_6 h
      refine lv_iload_n hx hb dX6_isTable_20 rfl (lv_at hl 1 rfl) ?_
      refine lv_iconst (v := (-1)) hx hb dX6_isTable_21 (by decide) ?_
      refine lv_icmp_ne (tgt := 30) hx hb dX6_isTable_22 (by decide) (fun c_7 => ?_) (fun c_7 => ?_)
      · have h := it_n c_7 h
        refine lv_iconst (v := 1) hx hb dX6_isTable_30 (by decide) ?_
        refine lv_goto (tgt := 35) hx hb dX6_isTable_31 (by decide) ?_
        cases h
        exact hret _ _ _ _ (Or.inr rfl) hP hD hS dX6_isTable_35
      · have h := it_p c_7 h
        refine lv_iload_n hx hb dX6_isTable_25 rfl (lv_at hl 0 rfl) ?_
        refine lv_iconst (v := (-1)) hx hb dX6_isTable_26 (by decide) ?_
        refine lv_icmp_ne (tgt := 34) hx hb dX6_isTable_27 (by decide) (fun c_8 => ?_) (fun c_8 => ?_)
        · have h := it_n c_8 h
          refine lv_iconst (v := 0) hx hb dX6_isTable_34 (by decide) ?_
          cases h
          exact hret _ _ _ _ (Or.inl rfl) hP hD hS dX6_isTable_35
        · have h := it_p c_8 h
          refine lv_iconst (v := 1) hx hb dX6_isTable_30 (by decide) ?_
          refine lv_goto (tgt := 35) hx hb dX6_isTable_31 (by decide) ?_
          cases h
          exact hret _ _ _ _ (Or.inr rfl) hP hD hS dX6_isTable_35
def f_X6_next (i1 : Int32) (i2 : Int32) (i3 : Int32) (i4 : Int32) (thrown6 : Int32) (told6 : Nat → Int32) (length6 : Int32) (behind6 : Nat → Int32) (shares6 : Nat → Int64) (over6 : Int64) : Option (Int64 × Int32 × (Nat → Int32) × (Nat → Int64) × Int64) :=
  nm (α := Int32) (0) fun thrown6_1 =>
  Option.bind (f_X6_isTable i1 i2) fun r_2 =>
  if r_2 = 0 then
    some ((-2), thrown6_1, behind6, shares6, over6)
  else
    Option.bind (f_X6_within i3 0 7) fun r_5 =>
    if r_5 = 0 then
      some ((-2), thrown6_1, behind6, shares6, over6)
    else
      Option.bind (f_X6_within i4 0 1) fun r_8 =>
      if r_8 = 0 then
        some ((-2), thrown6_1, behind6, shares6, over6)
      else
        Option.bind (f_X6_table i1 i2 told6 length6 behind6 shares6 over6) fun (behind6_11, shares6_12, over6_13) =>
        gA 8 shares6_12 i3 fun v_16 =>
        Option.bind (f_X6_side v_16 over6_13 i4) fun rj_17 =>
        some (rj_17, thrown6_1, behind6_11, shares6_12, over6_13)
set_option maxHeartbeats 4000000 in
set_option maxRecDepth 100000 in
theorem c_X6_next (l : Launch) (D : va_G) (cI cJ : ClassId) (h6 labels6a guesses6a comes6a sizes6a words6a told6a behind6a shares6a start6a move6a show6a signs6a many6a bestPath6a nextStart6a nextMove6a nextShow6a : Nat) (thrown6 : Int32) (rows6 : Int32) (labels6 : Nat → Int32) (guesses6 : Nat → Int32) (comes6 : Nat → Int32) (sizes6 : Nat → Int32) (words6 : Nat → Int32) (up6 : Int32) (down6 : Int32) (weightAbove6 : Int64) (weightBelow6 : Int64) (told6 : Nat → Int32) (length6 : Int32) (behind6 : Nat → Int32) (shares6 : Nat → Int64) (over6 : Int64) (start6 : Nat → Int32) (move6 : Nat → Int32) (show6 : Nat → Int32) (signs6 : Nat → Int32) (many6 : Nat → Int32) (bestPath6 : Nat → Int32) (nextStart6 : Nat → Int32) (nextMove6 : Nat → Int32) (nextShow6 : Nat → Int32) (i1 : Int32) (i2 : Int32) (i3 : Int32) (i4 : Int32) (ret9 : Int64) (thrown6z : Int32) (behind6z : Nat → Int32) (shares6z : Nat → Int64) (over6z : Int64) (h : f_X6_next i1 i2 i3 i4 thrown6 told6 length6 behind6 shares6 over6 = some (ret9, thrown6z, behind6z, shares6z, over6z)) : CL l D cI cJ yX6_next wsX6_next 2 55 [.ref h6, .int i1, .int i2, .int i3, .int i4] (w6 cI cJ h6 labels6a guesses6a comes6a sizes6a words6a told6a behind6a shares6a start6a move6a show6a signs6a many6a bestPath6a nextStart6a nextMove6a nextShow6a thrown6 rows6 labels6 guesses6 comes6 sizes6 words6 up6 down6 weightAbove6 weightBelow6 told6 length6 behind6 shares6 over6 start6 move6 show6 signs6 many6 bestPath6 nextStart6 nextMove6 nextShow6) (w6 cI cJ h6 labels6a guesses6a comes6a sizes6a words6a told6a behind6a shares6a start6a move6a show6a signs6a many6a bestPath6a nextStart6a nextMove6a nextShow6a thrown6z rows6 labels6 guesses6 comes6 sizes6 words6 up6 down6 weightAbove6 weightBelow6 told6 length6 behind6z shares6z over6z start6 move6 show6 signs6 many6 bestPath6 nextStart6 nextMove6 nextShow6) ret9 := by
  refine entL (cc := cX6_next) (maxL := 5) (by decide) rfl (Nat.le_of_ble_eq_true rfl) ?_
  intro p e s m args below meth c ls A Q X hret
  obtain ⟨hx, hb, hml, hts, hown, hK, hA, hP, hD, hS, hl, hnm⟩ := X
  have hown : s.vm.findClass RX6 = some m.cls := hown
  have hl : lv_has ls 5 [(0, .ref h6), (1, .int i1), (2, .int i2), (3, .int i3), (4, .int i4)] := hl
  have hw1 : (Cond.fieldLink RX6 69 "CountLearnersModel" "thrown" "I").before args s = true := hts _ (by decide +kernel)
  have hinX6 : ∀ w ∈ wsX60, w ∈ wsX6_next := by decide +kernel
  have hw3 : (Cond.constantLong RX6 106 (-2)).before args s = true := hts _ (by decide +kernel)
  have hw4 : (Cond.fieldLink RX6 38 "CountLearnersModel" "shares" "[J").before args s = true := hts _ (by decide +kernel)
  have hw5 : (Cond.fieldLink RX6 145 "CountLearnersModel" "over" "J").before args s = true := hts _ (by decide +kernel)
  unfold f_X6_next at h
  refine lv_aload_n hx hb dX6_next_0 rfl (lv_at hl 0 rfl) ?_
  refine lv_iconst (v := 0) hx hb dX6_next_1 (by decide) ?_
  refine lv_topi (fun thrown6_1 ethrown6_1 => ?_)
  have h := nm_s h thrown6_1 ethrown6_1
  refine va_put (D := D) (ci := 5) (v := .int thrown6_1) (ty := .int) (C := RX6) (T := TX6) (N := 25) hx hb hts hinX6 tyX6 tyX6_ok nmX6 hown hK.1 hP hD hS 0 rfl rfl 0 (by decide) hw1 (fun _ h9 => h9) rfl (by decide +kernel) rfl rfl (Nat.le_of_ble_eq_true rfl) dX6_next_2 (fun H locs hP hD hS => ?_)
  have hP : va_P D vwK (w6 cI cJ h6 labels6a guesses6a comes6a sizes6a words6a told6a behind6a shares6a start6a move6a show6a signs6a many6a bestPath6a nextStart6a nextMove6a nextShow6a thrown6_1 rows6 labels6 guesses6 comes6 sizes6 words6 up6 down6 weightAbove6 weightBelow6 told6 length6 behind6 shares6 over6 start6 move6 show6 signs6 many6 bestPath6 nextStart6 nextMove6 nextShow6) H := hP
  have hD : va_D A (w6 cI cJ h6 labels6a guesses6a comes6a sizes6a words6a told6a behind6a shares6a start6a move6a show6a signs6a many6a bestPath6a nextStart6a nextMove6a nextShow6a thrown6_1 rows6 labels6 guesses6 comes6 sizes6 words6 up6 down6 weightAbove6 weightBelow6 told6 length6 behind6 shares6 over6 start6 move6 show6 signs6 many6 bestPath6 nextStart6 nextMove6 nextShow6) := hD
  refine lv_iload_n hx hb dX6_next_5 rfl (lv_at hl 1 rfl) ?_
  refine lv_iload_n hx hb dX6_next_6 rfl (lv_at hl 2 rfl) ?_
  obtain ⟨r_2, hc_3, h⟩ := bd_s h
  refine callPi (As := [.int i1, .int i2]) (rest := []) ⟨hx, hb, hml, hown, hts⟩ (c_X6_isTable l D cI cJ i1 i2 r_2 hc_3) (va_cwS 2 hts gX6_next_X6_isTable rfl rfl rfl (by decide +kernel) ⟨Nat.le_of_ble_eq_true rfl, Nat.le_of_ble_eq_true rfl⟩) hK hP hD hS hA rfl hl.1 rfl (Nat.le_of_ble_eq_true rfl) dX6_next_7 ⟨Nat.zero_le _, Nat.zero_le _⟩ (fun H locs hP hD hS => ?_)
  refine lv_if_eq (tgt := 33) hx hb dX6_next_10 (by decide) (fun c_4 => ?_) (fun c_4 => ?_)
  · have h := it_p c_4 h
    refine lv_ldc2 (v := (-2)) hx hb hown hw3 dX6_next_33 ?_
    cases h
    exact hret _ _ _ _ hP hD hS dX6_next_36
  · have h := it_n c_4 h
    refine lv_iload_n hx hb dX6_next_13 rfl (lv_at hl 3 rfl) ?_
    refine lv_iconst (v := 0) hx hb dX6_next_14 (by decide) ?_
    refine lv_bipush (v := 7) hx hb dX6_next_15 (by decide) ?_
    obtain ⟨r_5, hc_6, h⟩ := bd_s h
    refine callPi (As := [.int i3, .int 0, .int 7]) (rest := []) ⟨hx, hb, hml, hown, hts⟩ (c_X6_within l D cI cJ i3 0 7 r_5 hc_6) (va_cwS 3 hts gX6_next_X6_within rfl rfl rfl (by decide +kernel) ⟨Nat.le_of_ble_eq_true rfl, Nat.le_of_ble_eq_true rfl⟩) hK hP hD hS hA rfl hl.1 rfl (Nat.le_of_ble_eq_true rfl) dX6_next_17 ⟨Nat.zero_le _, Nat.zero_le _⟩ (fun H locs hP hD hS => ?_)
    refine lv_if_eq (tgt := 33) hx hb dX6_next_20 (by decide) (fun c_7 => ?_) (fun c_7 => ?_)
    · have h := it_p c_7 h
      refine lv_ldc2 (v := (-2)) hx hb hown hw3 dX6_next_33 ?_
      cases h
      exact hret _ _ _ _ hP hD hS dX6_next_36
    · have h := it_n c_7 h
      refine lv_iload hx hb dX6_next_23 (lv_at hl 4 rfl) ?_
      refine lv_iconst (v := 0) hx hb dX6_next_25 (by decide) ?_
      refine lv_iconst (v := 1) hx hb dX6_next_26 (by decide) ?_
      obtain ⟨r_8, hc_9, h⟩ := bd_s h
      refine callPi (As := [.int i4, .int 0, .int 1]) (rest := []) ⟨hx, hb, hml, hown, hts⟩ (c_X6_within l D cI cJ i4 0 1 r_8 hc_9) (va_cwS 3 hts gX6_next_X6_within rfl rfl rfl (by decide +kernel) ⟨Nat.le_of_ble_eq_true rfl, Nat.le_of_ble_eq_true rfl⟩) hK hP hD hS hA rfl hl.1 rfl (Nat.le_of_ble_eq_true rfl) dX6_next_27 ⟨Nat.zero_le _, Nat.zero_le _⟩ (fun H locs hP hD hS => ?_)
      refine lv_if_ne (tgt := 37) hx hb dX6_next_30 (by decide) (fun c_10 => ?_) (fun c_10 => ?_)
      · have h := it_n c_10 h
        refine lv_aload_n hx hb dX6_next_37 rfl (lv_at hl 0 rfl) ?_
        refine lv_iload_n hx hb dX6_next_38 rfl (lv_at hl 1 rfl) ?_
        refine lv_iload_n hx hb dX6_next_39 rfl (lv_at hl 2 rfl) ?_
        obtain ⟨⟨behind6_11, shares6_12, over6_13⟩, hc_14, h⟩ := bd_s h
        refine callTv (As := [.int i1, .int i2]) (rest := []) ⟨hx, hb, hml, hown, hts⟩ (c_X6_table l D cI cJ h6 labels6a guesses6a comes6a sizes6a words6a told6a behind6a shares6a start6a move6a show6a signs6a many6a bestPath6a nextStart6a nextMove6a nextShow6a thrown6_1 rows6 labels6 guesses6 comes6 sizes6 words6 up6 down6 weightAbove6 weightBelow6 told6 length6 behind6 shares6 over6 start6 move6 show6 signs6 many6 bestPath6 nextStart6 nextMove6 nextShow6 i1 i2 behind6_11 shares6_12 over6_13 hc_14) (cwV 2 hts gX6_next_X6_table rfl rfl rfl (by decide +kernel) ⟨Nat.le_of_ble_eq_true rfl, Nat.le_of_ble_eq_true rfl⟩) hK hP hD hS hA 0 5 rfl rfl rfl rfl hl.1 rfl (Nat.le_of_ble_eq_true rfl) dX6_next_40 ⟨Nat.zero_le _, Nat.zero_le _⟩ (fun H locs hP hD hS => ?_)
        refine lv_aload_n hx hb dX6_next_43 rfl (lv_at hl 0 rfl) ?_
        refine va_get (D := D) (ci := 5) (v := .ref shares6a) (C := RX6) (T := TX6) (N := 25) hx hb hts hinX6 hown hK.1 hP 0 rfl rfl 14 (by decide) hw4 (fun _ h9 => h9) rfl dX6_next_44 ?_
        refine lv_iload_n hx hb dX6_next_47 rfl (lv_at hl 3 rfl) ?_
        obtain ⟨hi_15, h⟩ := gA_s h
        refine va_lald hx hb hK.1 hP 8 1 rfl rfl hi_15 dX6_next_48 ?_
        refine lv_topl (fun v_16 ev_16 => ?_)
        have h := h v_16 ev_16
        refine lv_aload_n hx hb dX6_next_49 rfl (lv_at hl 0 rfl) ?_
        refine va_get (D := D) (ci := 5) (v := .long over6_13) (C := RX6) (T := TX6) (N := 25) hx hb hts hinX6 hown hK.1 hP 0 rfl rfl 15 (by decide) hw5 (fun _ h9 => h9) rfl dX6_next_50 ?_
        refine lv_iload hx hb dX6_next_53 (lv_at hl 4 rfl) ?_
        obtain ⟨rj_17, hc_18, h⟩ := bd_s h
        refine callPl (As := [.long v_16, .long over6_13, .int i4]) (rest := []) ⟨hx, hb, hml, hown, hts⟩ (c_X6_side l D cI cJ v_16 over6_13 i4 rj_17 hc_18) (va_cwS 3 hts gX6_next_X6_side rfl rfl rfl (by decide +kernel) ⟨Nat.le_of_ble_eq_true rfl, Nat.le_of_ble_eq_true rfl⟩) hK hP hD hS hA rfl hl.1 rfl (Nat.le_of_ble_eq_true rfl) dX6_next_55 ⟨Nat.zero_le _, Nat.zero_le _⟩ (fun H locs hP hD hS => ?_)
        cases h
        exact hret _ _ _ _ hP hD hS dX6_next_58
      · have h := it_p c_10 h
        refine lv_ldc2 (v := (-2)) hx hb hown hw3 dX6_next_33 ?_
        cases h
        exact hret _ _ _ _ hP hD hS dX6_next_36
def f_X6_likely_L27 (shares6_6 : Nat → Int64) : Nat → Int32 → Int32 → Option (Int32 × Int32)
  | 0, _, _ => none
  | n + 1, y4_11, y3_12 =>
  if 8 ≤ y4_11 then
    some (y4_11, y3_12)
  else
    gA 8 shares6_6 y4_11 fun v_17 =>
    gA 8 shares6_6 y3_12 fun v_19 =>
    if (lg_cmp v_17 v_19) ≤ 0 then
      nm (α := Int32) (y3_12) fun x3_21 =>
      nm (α := Int32) (y4_11 + 1) fun x4_22 =>
      f_X6_likely_L27 shares6_6 n x4_22 x3_21
    else
      nm (α := Int32) (y4_11) fun x3_23 =>
      nm (α := Int32) (y4_11 + 1) fun x4_24 =>
      f_X6_likely_L27 shares6_6 n x4_24 x3_23
def f_X6_likely (i1 : Int32) (i2 : Int32) (thrown6 : Int32) (told6 : Nat → Int32) (length6 : Int32) (behind6 : Nat → Int32) (shares6 : Nat → Int64) (over6 : Int64) : Option (Int32 × Int32 × (Nat → Int32) × (Nat → Int64) × Int64) :=
  nm (α := Int32) (0) fun thrown6_1 =>
  Option.bind (f_X6_isTable i1 i2) fun r_2 =>
  if r_2 = 0 then
    some ((-2), thrown6_1, behind6, shares6, over6)
  else
    Option.bind (f_X6_table i1 i2 told6 length6 behind6 shares6 over6) fun (behind6_5, shares6_6, over6_7) =>
    nm (α := Int32) (0) fun x3_9 =>
    nm (α := Int32) (1) fun x4_10 =>
    Option.bind (f_X6_likely_L27 shares6_6 FU x4_10 x3_9) fun (z4_25, z3_26) =>
    some (z3_26, thrown6_1, behind6_5, shares6_6, over6_7)
set_option maxHeartbeats 4000000 in
set_option maxRecDepth 100000 in
theorem c_X6_likely (l : Launch) (D : va_G) (cI cJ : ClassId) (h6 labels6a guesses6a comes6a sizes6a words6a told6a behind6a shares6a start6a move6a show6a signs6a many6a bestPath6a nextStart6a nextMove6a nextShow6a : Nat) (thrown6 : Int32) (rows6 : Int32) (labels6 : Nat → Int32) (guesses6 : Nat → Int32) (comes6 : Nat → Int32) (sizes6 : Nat → Int32) (words6 : Nat → Int32) (up6 : Int32) (down6 : Int32) (weightAbove6 : Int64) (weightBelow6 : Int64) (told6 : Nat → Int32) (length6 : Int32) (behind6 : Nat → Int32) (shares6 : Nat → Int64) (over6 : Int64) (start6 : Nat → Int32) (move6 : Nat → Int32) (show6 : Nat → Int32) (signs6 : Nat → Int32) (many6 : Nat → Int32) (bestPath6 : Nat → Int32) (nextStart6 : Nat → Int32) (nextMove6 : Nat → Int32) (nextShow6 : Nat → Int32) (i1 : Int32) (i2 : Int32) (ret9 : Int32) (thrown6z : Int32) (behind6z : Nat → Int32) (shares6z : Nat → Int64) (over6z : Int64) (h : f_X6_likely i1 i2 thrown6 told6 length6 behind6 shares6 over6 = some (ret9, thrown6z, behind6z, shares6z, over6z)) : CI l D cI cJ yX6_likely wsX6_likely 2 47 [.ref h6, .int i1, .int i2] (w6 cI cJ h6 labels6a guesses6a comes6a sizes6a words6a told6a behind6a shares6a start6a move6a show6a signs6a many6a bestPath6a nextStart6a nextMove6a nextShow6a thrown6 rows6 labels6 guesses6 comes6 sizes6 words6 up6 down6 weightAbove6 weightBelow6 told6 length6 behind6 shares6 over6 start6 move6 show6 signs6 many6 bestPath6 nextStart6 nextMove6 nextShow6) (w6 cI cJ h6 labels6a guesses6a comes6a sizes6a words6a told6a behind6a shares6a start6a move6a show6a signs6a many6a bestPath6a nextStart6a nextMove6a nextShow6a thrown6z rows6 labels6 guesses6 comes6 sizes6 words6 up6 down6 weightAbove6 weightBelow6 told6 length6 behind6z shares6z over6z start6 move6 show6 signs6 many6 bestPath6 nextStart6 nextMove6 nextShow6) ret9 := by
  refine entI (cc := cX6_likely) (maxL := 5) (by decide) rfl (Nat.le_of_ble_eq_true rfl) ?_
  intro p e s m args below meth c ls A Q X hret
  obtain ⟨hx, hb, hml, hts, hown, hK, hA, hP, hD, hS, hl, hnm⟩ := X
  have hown : s.vm.findClass RX6 = some m.cls := hown
  have hl : lv_has ls 5 [(0, .ref h6), (1, .int i1), (2, .int i2)] := hl
  have hw1 : (Cond.fieldLink RX6 69 "CountLearnersModel" "thrown" "I").before args s = true := hts _ (by decide +kernel)
  have hinX6 : ∀ w ∈ wsX60, w ∈ wsX6_likely := by decide +kernel
  have hw3 : (Cond.fieldLink RX6 38 "CountLearnersModel" "shares" "[J").before args s = true := hts _ (by decide +kernel)
  unfold f_X6_likely at h
  refine lv_aload_n hx hb dX6_likely_0 rfl (lv_at hl 0 rfl) ?_
  refine lv_iconst (v := 0) hx hb dX6_likely_1 (by decide) ?_
  refine lv_topi (fun thrown6_1 ethrown6_1 => ?_)
  have h := nm_s h thrown6_1 ethrown6_1
  refine va_put (D := D) (ci := 5) (v := .int thrown6_1) (ty := .int) (C := RX6) (T := TX6) (N := 25) hx hb hts hinX6 tyX6 tyX6_ok nmX6 hown hK.1 hP hD hS 0 rfl rfl 0 (by decide) hw1 (fun _ h9 => h9) rfl (by decide +kernel) rfl rfl (Nat.le_of_ble_eq_true rfl) dX6_likely_2 (fun H locs hP hD hS => ?_)
  have hP : va_P D vwK (w6 cI cJ h6 labels6a guesses6a comes6a sizes6a words6a told6a behind6a shares6a start6a move6a show6a signs6a many6a bestPath6a nextStart6a nextMove6a nextShow6a thrown6_1 rows6 labels6 guesses6 comes6 sizes6 words6 up6 down6 weightAbove6 weightBelow6 told6 length6 behind6 shares6 over6 start6 move6 show6 signs6 many6 bestPath6 nextStart6 nextMove6 nextShow6) H := hP
  have hD : va_D A (w6 cI cJ h6 labels6a guesses6a comes6a sizes6a words6a told6a behind6a shares6a start6a move6a show6a signs6a many6a bestPath6a nextStart6a nextMove6a nextShow6a thrown6_1 rows6 labels6 guesses6 comes6 sizes6 words6 up6 down6 weightAbove6 weightBelow6 told6 length6 behind6 shares6 over6 start6 move6 show6 signs6 many6 bestPath6 nextStart6 nextMove6 nextShow6) := hD
  refine lv_iload_n hx hb dX6_likely_5 rfl (lv_at hl 1 rfl) ?_
  refine lv_iload_n hx hb dX6_likely_6 rfl (lv_at hl 2 rfl) ?_
  obtain ⟨r_2, hc_3, h⟩ := bd_s h
  refine callPi (As := [.int i1, .int i2]) (rest := []) ⟨hx, hb, hml, hown, hts⟩ (c_X6_isTable l D cI cJ i1 i2 r_2 hc_3) (va_cwS 2 hts gX6_likely_X6_isTable rfl rfl rfl (by decide +kernel) ⟨Nat.le_of_ble_eq_true rfl, Nat.le_of_ble_eq_true rfl⟩) hK hP hD hS hA rfl hl.1 rfl (Nat.le_of_ble_eq_true rfl) dX6_likely_7 ⟨Nat.zero_le _, Nat.zero_le _⟩ (fun H locs hP hD hS => ?_)
  refine lv_if_ne (tgt := 16) hx hb dX6_likely_10 (by decide) (fun c_4 => ?_) (fun c_4 => ?_)
  · have h := it_n c_4 h
    refine lv_aload_n hx hb dX6_likely_16 rfl (lv_at hl 0 rfl) ?_
    refine lv_iload_n hx hb dX6_likely_17 rfl (lv_at hl 1 rfl) ?_
    refine lv_iload_n hx hb dX6_likely_18 rfl (lv_at hl 2 rfl) ?_
    obtain ⟨⟨behind6_5, shares6_6, over6_7⟩, hc_8, h⟩ := bd_s h
    refine callTv (As := [.int i1, .int i2]) (rest := []) ⟨hx, hb, hml, hown, hts⟩ (c_X6_table l D cI cJ h6 labels6a guesses6a comes6a sizes6a words6a told6a behind6a shares6a start6a move6a show6a signs6a many6a bestPath6a nextStart6a nextMove6a nextShow6a thrown6_1 rows6 labels6 guesses6 comes6 sizes6 words6 up6 down6 weightAbove6 weightBelow6 told6 length6 behind6 shares6 over6 start6 move6 show6 signs6 many6 bestPath6 nextStart6 nextMove6 nextShow6 i1 i2 behind6_5 shares6_6 over6_7 hc_8) (cwV 2 hts gX6_likely_X6_table rfl rfl rfl (by decide +kernel) ⟨Nat.le_of_ble_eq_true rfl, Nat.le_of_ble_eq_true rfl⟩) hK hP hD hS hA 0 5 rfl rfl rfl rfl hl.1 rfl (Nat.le_of_ble_eq_true rfl) dX6_likely_19 ⟨Nat.zero_le _, Nat.zero_le _⟩ (fun H locs hP hD hS => ?_)
    refine lv_iconst (v := 0) hx hb dX6_likely_22 (by decide) ?_
    refine lv_topi (fun x3_9 ex3_9 => ?_)
    have h := nm_s h x3_9 ex3_9
    refine lv_istore_n (lv' := [(3, .int x3_9), (0, .ref h6), (1, .int i1), (2, .int i2)]) hx hb dX6_likely_23 rfl hl (by decide) rfl (fun ls hl => ?_)
    refine lv_iconst (v := 1) hx hb dX6_likely_24 (by decide) ?_
    refine lv_topi (fun x4_10 ex4_10 => ?_)
    have h := nm_s h x4_10 ex4_10
    refine lv_istore (lv' := [(4, .int x4_10), (3, .int x3_9), (0, .ref h6), (1, .int i1), (2, .int i2)]) hx hb dX6_likely_25 hl (by decide) rfl (fun ls hl => ?_)
    have L27 : ∀ (n : Nat) (y4_11 : Int32) (y3_12 : Int32) (z4_13 : Int32) (z3_14 : Int32), f_X6_likely_L27 shares6_6 n y4_11 y3_12 = some (z4_13, z3_14) → ∀ (H : Heap) (locs : List Loc) (ls : Array Slot), va_P D vwK (w6 cI cJ h6 labels6a guesses6a comes6a sizes6a words6a told6a behind6a shares6a start6a move6a show6a signs6a many6a bestPath6a nextStart6a nextMove6a nextShow6a thrown6_1 rows6 labels6 guesses6 comes6 sizes6 words6 up6 down6 weightAbove6 weightBelow6 told6 length6 behind6_5 shares6_6 over6_7 start6 move6 show6 signs6 many6 bestPath6 nextStart6 nextMove6 nextShow6) H → va_D A (w6 cI cJ h6 labels6a guesses6a comes6a sizes6a words6a told6a behind6a shares6a start6a move6a show6a signs6a many6a bestPath6a nextStart6a nextMove6a nextShow6a thrown6_1 rows6 labels6 guesses6 comes6 sizes6 words6 up6 down6 weightAbove6 weightBelow6 told6 length6 behind6_5 shares6_6 over6_7 start6 move6 show6 signs6 many6 bestPath6 nextStart6 nextMove6 nextShow6) → va_S A s.heap H locs → lv_has ls 5 [(4, .int y4_11), (3, .int y3_12), (0, .ref h6)] → (∀ (H : Heap) (locs : List Loc) (ls : Array Slot), va_P D vwK (w6 cI cJ h6 labels6a guesses6a comes6a sizes6a words6a told6a behind6a shares6a start6a move6a show6a signs6a many6a bestPath6a nextStart6a nextMove6a nextShow6a thrown6_1 rows6 labels6 guesses6 comes6 sizes6 words6 up6 down6 weightAbove6 weightBelow6 told6 length6 behind6_5 shares6_6 over6_7 start6 move6 show6 signs6 many6 bestPath6 nextStart6 nextMove6 nextShow6) H → va_D A (w6 cI cJ h6 labels6a guesses6a comes6a sizes6a words6a told6a behind6a shares6a start6a move6a show6a signs6a many6a bestPath6a nextStart6a nextMove6a nextShow6a thrown6_1 rows6 labels6 guesses6 comes6 sizes6 words6 up6 down6 weightAbove6 weightBelow6 told6 length6 behind6_5 shares6_6 over6_7 start6 move6 show6 signs6 many6 bestPath6 nextStart6 nextMove6 nextShow6) → va_S A s.heap H locs → lv_has ls 5 [(3, .int z3_14)] → W p l e (rmOf 2 47) s m args below meth c H locs 0 0 Q (F0 m 64 ls [])) → W p l e (rmOf 2 47) s m args below meth c H locs 0 0 Q (F0 m 27 ls []) := by
      intro n
      induction n with
      | zero => intro y4_11 y3_12 z4_13 z3_14 h; rw [f_X6_likely_L27.eq_1] at h; cases h
      | succ n ih =>
        intro y4_11 y3_12 z4_13 z3_14 h H locs ls hP hD hS hl K
        rw [f_X6_likely_L27.eq_2] at h
        refine lv_iload hx hb dX6_likely_27 (lv_at hl 0 rfl) ?_
        refine lv_bipush (v := 8) hx hb dX6_likely_29 (by decide) ?_
        refine lv_icmp_ge (tgt := 64) hx hb dX6_likely_31 (by decide) (fun c_15 => ?_) (fun c_15 => ?_)
        · have h := it_p c_15 h
          cases h
          exact K _ _ _ hP hD hS (lv_sub hl [1] rfl)
        · have h := it_n c_15 h
          refine lv_aload_n hx hb dX6_likely_34 rfl (lv_at hl 2 rfl) ?_
          refine va_get (D := D) (ci := 5) (v := .ref shares6a) (C := RX6) (T := TX6) (N := 25) hx hb hts hinX6 hown hK.1 hP 0 rfl rfl 14 (by decide) hw3 (fun _ h9 => h9) rfl dX6_likely_35 ?_
          refine lv_iload hx hb dX6_likely_38 (lv_at hl 0 rfl) ?_
          obtain ⟨hi_16, h⟩ := gA_s h
          refine va_lald hx hb hK.1 hP 8 1 rfl rfl hi_16 dX6_likely_40 ?_
          refine lv_topl (fun v_17 ev_17 => ?_)
          have h := h v_17 ev_17
          refine lv_aload_n hx hb dX6_likely_41 rfl (lv_at hl 2 rfl) ?_
          refine va_get (D := D) (ci := 5) (v := .ref shares6a) (C := RX6) (T := TX6) (N := 25) hx hb hts hinX6 hown hK.1 hP 0 rfl rfl 14 (by decide) hw3 (fun _ h9 => h9) rfl dX6_likely_42 ?_
          refine lv_iload_n hx hb dX6_likely_45 rfl (lv_at hl 1 rfl) ?_
          obtain ⟨hi_18, h⟩ := gA_s h
          refine va_lald hx hb hK.1 hP 8 1 rfl rfl hi_18 dX6_likely_46 ?_
          refine lv_topl (fun v_19 ev_19 => ?_)
          have h := h v_19 ev_19
          refine W.lcmp hx hb dX6_likely_47 ?_
          refine lv_if_le (tgt := 56) hx hb dX6_likely_48 (by decide) (fun c_20 => ?_) (fun c_20 => ?_)
          · have h := it_p c_20 h
            refine lv_iload_n hx hb dX6_likely_56 rfl (lv_at hl 1 rfl) ?_
            refine lv_topi (fun x3_21 ex3_21 => ?_)
            have h := nm_s h x3_21 ex3_21
            refine lv_istore_n (lv' := [(3, .int x3_21), (4, .int y4_11), (0, .ref h6)]) hx hb dX6_likely_57 rfl hl (by decide) rfl (fun ls hl => ?_)
            obtain ⟨x4_22, ex4_22⟩ : ∃ z : Int32, z = y4_11 + 1 := ⟨_, rfl⟩
            have h := nm_s h x4_22 ex4_22
            refine lv_iinc (v := x4_22) (lv' := [(4, .int x4_22), (3, .int x3_21), (0, .ref h6)]) hx hb dX6_likely_58 hl (k := 1) rfl (by rw [ex4_22]; rfl) (by decide) rfl (fun ls hl => ?_)
            refine lv_goto (tgt := 27) hx hb dX6_likely_61 (by decide) ?_
            exact ih _ _ _ _ h _ _ _ hP hD hS (lv_sub hl [0, 1, 2] rfl) K
          · have h := it_n c_20 h
            refine lv_iload hx hb dX6_likely_51 (lv_at hl 0 rfl) ?_
            refine lv_goto (tgt := 57) hx hb dX6_likely_53 (by decide) ?_
            refine lv_topi (fun x3_23 ex3_23 => ?_)
            have h := nm_s h x3_23 ex3_23
            refine lv_istore_n (lv' := [(3, .int x3_23), (4, .int y4_11), (0, .ref h6)]) hx hb dX6_likely_57 rfl hl (by decide) rfl (fun ls hl => ?_)
            obtain ⟨x4_24, ex4_24⟩ : ∃ z : Int32, z = y4_11 + 1 := ⟨_, rfl⟩
            have h := nm_s h x4_24 ex4_24
            refine lv_iinc (v := x4_24) (lv' := [(4, .int x4_24), (3, .int x3_23), (0, .ref h6)]) hx hb dX6_likely_58 hl (k := 1) rfl (by rw [ex4_24]; rfl) (by decide) rfl (fun ls hl => ?_)
            refine lv_goto (tgt := 27) hx hb dX6_likely_61 (by decide) ?_
            exact ih _ _ _ _ h _ _ _ hP hD hS (lv_sub hl [0, 1, 2] rfl) K
    obtain ⟨⟨z4_25, z3_26⟩, hl_27, h⟩ := bd_s h
    refine L27 FU x4_10 x3_9 _ _ hl_27 _ _ _ hP hD hS (lv_sub hl [0, 1, 2] rfl) (fun H locs ls hP hD hS hl => ?_)
    refine lv_iload_n hx hb dX6_likely_64 rfl (lv_at hl 0 rfl) ?_
    cases h
    exact hret _ _ _ _ hP hD hS dX6_likely_65
  · have h := it_p c_4 h
    refine lv_bipush (v := (-2)) hx hb dX6_likely_13 (by decide) ?_
    cases h
    exact hret _ _ _ _ hP hD hS dX6_likely_15
def f_X6_weigh (i1 : Int32) (i2 : Int32) (i3 : Int32) (i4 : Int32) (thrown6 : Int32) (start6 : Nat → Int32) (move6 : Nat → Int32) (show6 : Nat → Int32) : Option (Int32 × Int32 × (Nat → Int32) × (Nat → Int32) × (Nat → Int32)) :=
  nm (α := Int32) (0) fun thrown6_1 =>
  Option.bind (f_X6_within i1 0 2) fun r_2 =>
  if r_2 = 0 then
    some ((-2), thrown6_1, start6, move6, show6)
  else
    Option.bind (f_X6_within i2 0 3) fun r_5 =>
    if r_5 = 0 then
      some ((-2), thrown6_1, start6, move6, show6)
    else
      if i1 ≤ 0 then
        Option.bind (f_X6_within i4 (-1) 21) fun r_9 =>
        if r_9 = 0 then
          some ((-2), thrown6_1, start6, move6, show6)
        else
          nm (α := Int32) (((4 * i2) + i3)) fun x5_12 =>
          if i1 = 0 then
            gA 4 start6 i2 fun v_40 =>
            nm (α := Int32) (v_40) fun x6_41 =>
            if i4 = (-1) then
              some (x6_41, thrown6_1, start6, move6, show6)
            else
              if i1 = 0 then
                sI 4 start6 i2 i4 fun start6_50 =>
                some (x6_41, thrown6_1, start6_50, move6, show6)
              else
                if i1 = 1 then
                  sI 16 move6 x5_12 i4 fun move6_48 =>
                  some (x6_41, thrown6_1, start6, move6_48, show6)
                else
                  sI 16 show6 x5_12 i4 fun show6_46 =>
                  some (x6_41, thrown6_1, start6, move6, show6_46)
          else
            if i1 = 1 then
              gA 16 move6 x5_12 fun v_28 =>
              nm (α := Int32) (v_28) fun x6_29 =>
              if i4 = (-1) then
                some (x6_29, thrown6_1, start6, move6, show6)
              else
                if i1 = 0 then
                  sI 4 start6 i2 i4 fun start6_38 =>
                  some (x6_29, thrown6_1, start6_38, move6, show6)
                else
                  if i1 = 1 then
                    sI 16 move6 x5_12 i4 fun move6_36 =>
                    some (x6_29, thrown6_1, start6, move6_36, show6)
                  else
                    sI 16 show6 x5_12 i4 fun show6_34 =>
                    some (x6_29, thrown6_1, start6, move6, show6_34)
            else
              gA 16 show6 x5_12 fun v_16 =>
              nm (α := Int32) (v_16) fun x6_17 =>
              if i4 = (-1) then
                some (x6_17, thrown6_1, start6, move6, show6)
              else
                if i1 = 0 then
                  sI 4 start6 i2 i4 fun start6_26 =>
                  some (x6_17, thrown6_1, start6_26, move6, show6)
                else
                  if i1 = 1 then
                    sI 16 move6 x5_12 i4 fun move6_24 =>
                    some (x6_17, thrown6_1, start6, move6_24, show6)
                  else
                    sI 16 show6 x5_12 i4 fun show6_22 =>
                    some (x6_17, thrown6_1, start6, move6, show6_22)
      else
        Option.bind (f_X6_within i3 0 3) fun r_51 =>
        if r_51 = 0 then
          some ((-2), thrown6_1, start6, move6, show6)
        else
          Option.bind (f_X6_within i4 (-1) 21) fun r_54 =>
          if r_54 = 0 then
            some ((-2), thrown6_1, start6, move6, show6)
          else
            nm (α := Int32) (((4 * i2) + i3)) fun x5_57 =>
            if i1 = 0 then
              gA 4 start6 i2 fun v_85 =>
              nm (α := Int32) (v_85) fun x6_86 =>
              if i4 = (-1) then
                some (x6_86, thrown6_1, start6, move6, show6)
              else
                if i1 = 0 then
                  sI 4 start6 i2 i4 fun start6_95 =>
                  some (x6_86, thrown6_1, start6_95, move6, show6)
                else
                  if i1 = 1 then
                    sI 16 move6 x5_57 i4 fun move6_93 =>
                    some (x6_86, thrown6_1, start6, move6_93, show6)
                  else
                    sI 16 show6 x5_57 i4 fun show6_91 =>
                    some (x6_86, thrown6_1, start6, move6, show6_91)
            else
              if i1 = 1 then
                gA 16 move6 x5_57 fun v_73 =>
                nm (α := Int32) (v_73) fun x6_74 =>
                if i4 = (-1) then
                  some (x6_74, thrown6_1, start6, move6, show6)
                else
                  if i1 = 0 then
                    sI 4 start6 i2 i4 fun start6_83 =>
                    some (x6_74, thrown6_1, start6_83, move6, show6)
                  else
                    if i1 = 1 then
                      sI 16 move6 x5_57 i4 fun move6_81 =>
                      some (x6_74, thrown6_1, start6, move6_81, show6)
                    else
                      sI 16 show6 x5_57 i4 fun show6_79 =>
                      some (x6_74, thrown6_1, start6, move6, show6_79)
              else
                gA 16 show6 x5_57 fun v_61 =>
                nm (α := Int32) (v_61) fun x6_62 =>
                if i4 = (-1) then
                  some (x6_62, thrown6_1, start6, move6, show6)
                else
                  if i1 = 0 then
                    sI 4 start6 i2 i4 fun start6_71 =>
                    some (x6_62, thrown6_1, start6_71, move6, show6)
                  else
                    if i1 = 1 then
                      sI 16 move6 x5_57 i4 fun move6_69 =>
                      some (x6_62, thrown6_1, start6, move6_69, show6)
                    else
                      sI 16 show6 x5_57 i4 fun show6_67 =>
                      some (x6_62, thrown6_1, start6, move6, show6_67)
set_option maxHeartbeats 4000000 in
set_option maxRecDepth 100000 in
theorem c_X6_weigh (l : Launch) (D : va_G) (cI cJ : ClassId) (h6 labels6a guesses6a comes6a sizes6a words6a told6a behind6a shares6a start6a move6a show6a signs6a many6a bestPath6a nextStart6a nextMove6a nextShow6a : Nat) (thrown6 : Int32) (rows6 : Int32) (labels6 : Nat → Int32) (guesses6 : Nat → Int32) (comes6 : Nat → Int32) (sizes6 : Nat → Int32) (words6 : Nat → Int32) (up6 : Int32) (down6 : Int32) (weightAbove6 : Int64) (weightBelow6 : Int64) (told6 : Nat → Int32) (length6 : Int32) (behind6 : Nat → Int32) (shares6 : Nat → Int64) (over6 : Int64) (start6 : Nat → Int32) (move6 : Nat → Int32) (show6 : Nat → Int32) (signs6 : Nat → Int32) (many6 : Nat → Int32) (bestPath6 : Nat → Int32) (nextStart6 : Nat → Int32) (nextMove6 : Nat → Int32) (nextShow6 : Nat → Int32) (i1 : Int32) (i2 : Int32) (i3 : Int32) (i4 : Int32) (ret9 : Int32) (thrown6z : Int32) (start6z : Nat → Int32) (move6z : Nat → Int32) (show6z : Nat → Int32) (h : f_X6_weigh i1 i2 i3 i4 thrown6 start6 move6 show6 = some (ret9, thrown6z, start6z, move6z, show6z)) : CI l D cI cJ yX6_weigh wsX6_weigh 1 22 [.ref h6, .int i1, .int i2, .int i3, .int i4] (w6 cI cJ h6 labels6a guesses6a comes6a sizes6a words6a told6a behind6a shares6a start6a move6a show6a signs6a many6a bestPath6a nextStart6a nextMove6a nextShow6a thrown6 rows6 labels6 guesses6 comes6 sizes6 words6 up6 down6 weightAbove6 weightBelow6 told6 length6 behind6 shares6 over6 start6 move6 show6 signs6 many6 bestPath6 nextStart6 nextMove6 nextShow6) (w6 cI cJ h6 labels6a guesses6a comes6a sizes6a words6a told6a behind6a shares6a start6a move6a show6a signs6a many6a bestPath6a nextStart6a nextMove6a nextShow6a thrown6z rows6 labels6 guesses6 comes6 sizes6 words6 up6 down6 weightAbove6 weightBelow6 told6 length6 behind6 shares6 over6 start6z move6z show6z signs6 many6 bestPath6 nextStart6 nextMove6 nextShow6) ret9 := by
  refine entI (cc := cX6_weigh) (maxL := 7) (by decide) rfl (Nat.le_of_ble_eq_true rfl) ?_
  intro p e s m args below meth c ls A Q X hret
  obtain ⟨hx, hb, hml, hts, hown, hK, hA, hP, hD, hS, hl, hnm⟩ := X
  have hown : s.vm.findClass RX6 = some m.cls := hown
  have hl : lv_has ls 7 [(0, .ref h6), (1, .int i1), (2, .int i2), (3, .int i3), (4, .int i4)] := hl
  have hw1 : (Cond.fieldLink RX6 69 "CountLearnersModel" "thrown" "I").before args s = true := hts _ (by decide +kernel)
  have hinX6 : ∀ w ∈ wsX60, w ∈ wsX6_weigh := by decide +kernel
  have hw3 : (Cond.fieldLink RX6 48 "CountLearnersModel" "show" "[I").before args s = true := hts _ (by decide +kernel)
  have hw4 : (Cond.fieldLink RX6 45 "CountLearnersModel" "move" "[I").before args s = true := hts _ (by decide +kernel)
  have hw5 : (Cond.fieldLink RX6 42 "CountLearnersModel" "start" "[I").before args s = true := hts _ (by decide +kernel)
  unfold f_X6_weigh at h
  refine lv_aload_n hx hb dX6_weigh_0 rfl (lv_at hl 0 rfl) ?_
  refine lv_iconst (v := 0) hx hb dX6_weigh_1 (by decide) ?_
  refine lv_topi (fun thrown6_1 ethrown6_1 => ?_)
  have h := nm_s h thrown6_1 ethrown6_1
  refine va_put (D := D) (ci := 5) (v := .int thrown6_1) (ty := .int) (C := RX6) (T := TX6) (N := 25) hx hb hts hinX6 tyX6 tyX6_ok nmX6 hown hK.1 hP hD hS 0 rfl rfl 0 (by decide) hw1 (fun _ h9 => h9) rfl (by decide +kernel) rfl rfl (Nat.le_of_ble_eq_true rfl) dX6_weigh_2 (fun H locs hP hD hS => ?_)
  have hP : va_P D vwK (w6 cI cJ h6 labels6a guesses6a comes6a sizes6a words6a told6a behind6a shares6a start6a move6a show6a signs6a many6a bestPath6a nextStart6a nextMove6a nextShow6a thrown6_1 rows6 labels6 guesses6 comes6 sizes6 words6 up6 down6 weightAbove6 weightBelow6 told6 length6 behind6 shares6 over6 start6 move6 show6 signs6 many6 bestPath6 nextStart6 nextMove6 nextShow6) H := hP
  have hD : va_D A (w6 cI cJ h6 labels6a guesses6a comes6a sizes6a words6a told6a behind6a shares6a start6a move6a show6a signs6a many6a bestPath6a nextStart6a nextMove6a nextShow6a thrown6_1 rows6 labels6 guesses6 comes6 sizes6 words6 up6 down6 weightAbove6 weightBelow6 told6 length6 behind6 shares6 over6 start6 move6 show6 signs6 many6 bestPath6 nextStart6 nextMove6 nextShow6) := hD
  refine lv_iload_n hx hb dX6_weigh_5 rfl (lv_at hl 1 rfl) ?_
  refine lv_iconst (v := 0) hx hb dX6_weigh_6 (by decide) ?_
  refine lv_iconst (v := 2) hx hb dX6_weigh_7 (by decide) ?_
  obtain ⟨r_2, hc_3, h⟩ := bd_s h
  refine callPi (As := [.int i1, .int 0, .int 2]) (rest := []) ⟨hx, hb, hml, hown, hts⟩ (c_X6_within l D cI cJ i1 0 2 r_2 hc_3) (va_cwS 3 hts gX6_weigh_X6_within rfl rfl rfl (by decide +kernel) ⟨Nat.le_of_ble_eq_true rfl, Nat.le_of_ble_eq_true rfl⟩) hK hP hD hS hA rfl hl.1 rfl (Nat.le_of_ble_eq_true rfl) dX6_weigh_8 ⟨Nat.zero_le _, Nat.zero_le _⟩ (fun H locs hP hD hS => ?_)
  refine lv_if_eq (tgt := 47) hx hb dX6_weigh_11 (by decide) (fun c_4 => ?_) (fun c_4 => ?_)
  · have h := it_p c_4 h
    refine lv_bipush (v := (-2)) hx hb dX6_weigh_47 (by decide) ?_
    cases h
    exact hret _ _ _ _ hP hD hS dX6_weigh_49
  · have h := it_n c_4 h
    refine lv_iload_n hx hb dX6_weigh_14 rfl (lv_at hl 2 rfl) ?_
    refine lv_iconst (v := 0) hx hb dX6_weigh_15 (by decide) ?_
    refine lv_iconst (v := 3) hx hb dX6_weigh_16 (by decide) ?_
    obtain ⟨r_5, hc_6, h⟩ := bd_s h
    refine callPi (As := [.int i2, .int 0, .int 3]) (rest := []) ⟨hx, hb, hml, hown, hts⟩ (c_X6_within l D cI cJ i2 0 3 r_5 hc_6) (va_cwS 3 hts gX6_weigh_X6_within rfl rfl rfl (by decide +kernel) ⟨Nat.le_of_ble_eq_true rfl, Nat.le_of_ble_eq_true rfl⟩) hK hP hD hS hA rfl hl.1 rfl (Nat.le_of_ble_eq_true rfl) dX6_weigh_17 ⟨Nat.zero_le _, Nat.zero_le _⟩ (fun H locs hP hD hS => ?_)
    refine lv_if_eq (tgt := 47) hx hb dX6_weigh_20 (by decide) (fun c_7 => ?_) (fun c_7 => ?_)
    · have h := it_p c_7 h
      refine lv_bipush (v := (-2)) hx hb dX6_weigh_47 (by decide) ?_
      cases h
      exact hret _ _ _ _ hP hD hS dX6_weigh_49
    · have h := it_n c_7 h
      refine lv_iload_n hx hb dX6_weigh_23 rfl (lv_at hl 1 rfl) ?_
      refine lv_if_le (tgt := 36) hx hb dX6_weigh_24 (by decide) (fun c_8 => ?_) (fun c_8 => ?_)
      · have h := it_p c_8 h
        refine lv_iload hx hb dX6_weigh_36 (lv_at hl 4 rfl) ?_
        refine lv_iconst (v := (-1)) hx hb dX6_weigh_38 (by decide) ?_
        refine lv_bipush (v := 21) hx hb dX6_weigh_39 (by decide) ?_
        obtain ⟨r_9, hc_10, h⟩ := bd_s h
        refine callPi (As := [.int i4, .int (-1), .int 21]) (rest := []) ⟨hx, hb, hml, hown, hts⟩ (c_X6_within l D cI cJ i4 (-1) 21 r_9 hc_10) (va_cwS 3 hts gX6_weigh_X6_within rfl rfl rfl (by decide +kernel) ⟨Nat.le_of_ble_eq_true rfl, Nat.le_of_ble_eq_true rfl⟩) hK hP hD hS hA rfl hl.1 rfl (Nat.le_of_ble_eq_true rfl) dX6_weigh_41 ⟨Nat.zero_le _, Nat.zero_le _⟩ (fun H locs hP hD hS => ?_)
        refine lv_if_ne (tgt := 50) hx hb dX6_weigh_44 (by decide) (fun c_11 => ?_) (fun c_11 => ?_)
        · have h := it_n c_11 h
          refine lv_iconst (v := 4) hx hb dX6_weigh_50 (by decide) ?_
          refine lv_iload_n hx hb dX6_weigh_51 rfl (lv_at hl 2 rfl) ?_
          refine lv_imul hx hb dX6_weigh_52 ?_
          refine lv_iload_n hx hb dX6_weigh_53 rfl (lv_at hl 3 rfl) ?_
          refine lv_iadd hx hb dX6_weigh_54 ?_
          refine lv_topi (fun x5_12 ex5_12 => ?_)
          have h := nm_s h x5_12 ex5_12
          refine lv_istore (lv' := [(5, .int x5_12), (0, .ref h6), (1, .int i1), (2, .int i2), (3, .int i3), (4, .int i4)]) hx hb dX6_weigh_55 hl (by decide) rfl (fun ls hl => ?_)
          refine lv_iload_n hx hb dX6_weigh_57 rfl (lv_at hl 2 rfl) ?_
          refine lv_if_ne (tgt := 70) hx hb dX6_weigh_58 (by decide) (fun c_13 => ?_) (fun c_13 => ?_)
          · have h := it_n c_13 h
            refine lv_iload_n hx hb dX6_weigh_70 rfl (lv_at hl 2 rfl) ?_
            refine lv_iconst (v := 1) hx hb dX6_weigh_71 (by decide) ?_
            refine lv_icmp_ne (tgt := 85) hx hb dX6_weigh_72 (by decide) (fun c_14 => ?_) (fun c_14 => ?_)
            · have h := it_n c_14 h
              refine lv_aload_n hx hb dX6_weigh_85 rfl (lv_at hl 1 rfl) ?_
              refine va_get (D := D) (ci := 5) (v := .ref show6a) (C := RX6) (T := TX6) (N := 25) hx hb hts hinX6 hown hK.1 hP 0 rfl rfl 18 (by decide) hw3 (fun _ h9 => h9) rfl dX6_weigh_86 ?_
              refine lv_iload hx hb dX6_weigh_89 (lv_at hl 0 rfl) ?_
              obtain ⟨hi_15, h⟩ := gA_s h
              refine va_iald hx hb hK.1 hP 11 0 rfl rfl hi_15 dX6_weigh_91 ?_
              refine lv_topi (fun v_16 ev_16 => ?_)
              have h := h v_16 ev_16
              refine lv_topi (fun x6_17 ex6_17 => ?_)
              have h := nm_s h x6_17 ex6_17
              refine lv_istore (lv' := [(6, .int x6_17), (5, .int x5_12), (0, .ref h6), (1, .int i1), (2, .int i2), (3, .int i3), (4, .int i4)]) hx hb dX6_weigh_92 hl (by decide) rfl (fun ls hl => ?_)
              refine lv_iload hx hb dX6_weigh_94 (lv_at hl 6 rfl) ?_
              refine lv_iconst (v := (-1)) hx hb dX6_weigh_96 (by decide) ?_
              refine lv_icmp_eq (tgt := 141) hx hb dX6_weigh_97 (by decide) (fun c_18 => ?_) (fun c_18 => ?_)
              · have h := it_p c_18 h
                refine lv_iload hx hb dX6_weigh_141 (lv_at hl 0 rfl) ?_
                cases h
                exact hret _ _ _ _ hP hD hS dX6_weigh_143
              · have h := it_n c_18 h
                refine lv_iload_n hx hb dX6_weigh_100 rfl (lv_at hl 3 rfl) ?_
                refine lv_if_ne (tgt := 115) hx hb dX6_weigh_101 (by decide) (fun c_19 => ?_) (fun c_19 => ?_)
                · have h := it_n c_19 h
                  refine lv_iload_n hx hb dX6_weigh_115 rfl (lv_at hl 3 rfl) ?_
                  refine lv_iconst (v := 1) hx hb dX6_weigh_116 (by decide) ?_
                  refine lv_icmp_ne (tgt := 132) hx hb dX6_weigh_117 (by decide) (fun c_20 => ?_) (fun c_20 => ?_)
                  · have h := it_n c_20 h
                    refine lv_aload_n hx hb dX6_weigh_132 rfl (lv_at hl 2 rfl) ?_
                    refine va_get (D := D) (ci := 5) (v := .ref show6a) (C := RX6) (T := TX6) (N := 25) hx hb hts hinX6 hown hK.1 hP 0 rfl rfl 18 (by decide) hw3 (fun _ h9 => h9) rfl dX6_weigh_133 ?_
                    refine lv_iload hx hb dX6_weigh_136 (lv_at hl 1 rfl) ?_
                    refine lv_iload hx hb dX6_weigh_138 (lv_at hl 6 rfl) ?_
                    obtain ⟨hi_21, h⟩ := sI_s h
                    refine va_iast hx hb hK.1 hP hD hS 11 0 rfl rfl hi_21 dX6_weigh_140 (fun H locs hP hD hS => ?_)
                    obtain ⟨show6_22, eshow6_22⟩ : ∃ z, z = upd show6 (Int32.toNatClampNeg x5_12) i4 := ⟨_, rfl⟩
                    have h := h show6_22 eshow6_22
                    rw [← eshow6_22] at hP hD
                    have hP : va_P D vwK (w6 cI cJ h6 labels6a guesses6a comes6a sizes6a words6a told6a behind6a shares6a start6a move6a show6a signs6a many6a bestPath6a nextStart6a nextMove6a nextShow6a thrown6_1 rows6 labels6 guesses6 comes6 sizes6 words6 up6 down6 weightAbove6 weightBelow6 told6 length6 behind6 shares6 over6 start6 move6 show6_22 signs6 many6 bestPath6 nextStart6 nextMove6 nextShow6) H := hP
                    have hD : va_D A (w6 cI cJ h6 labels6a guesses6a comes6a sizes6a words6a told6a behind6a shares6a start6a move6a show6a signs6a many6a bestPath6a nextStart6a nextMove6a nextShow6a thrown6_1 rows6 labels6 guesses6 comes6 sizes6 words6 up6 down6 weightAbove6 weightBelow6 told6 length6 behind6 shares6 over6 start6 move6 show6_22 signs6 many6 bestPath6 nextStart6 nextMove6 nextShow6) := hD
                    refine lv_iload hx hb dX6_weigh_141 (lv_at hl 0 rfl) ?_
                    cases h
                    exact hret _ _ _ _ hP hD hS dX6_weigh_143
                  · have h := it_p c_20 h
                    refine lv_aload_n hx hb dX6_weigh_120 rfl (lv_at hl 2 rfl) ?_
                    refine va_get (D := D) (ci := 5) (v := .ref move6a) (C := RX6) (T := TX6) (N := 25) hx hb hts hinX6 hown hK.1 hP 0 rfl rfl 17 (by decide) hw4 (fun _ h9 => h9) rfl dX6_weigh_121 ?_
                    refine lv_iload hx hb dX6_weigh_124 (lv_at hl 1 rfl) ?_
                    refine lv_iload hx hb dX6_weigh_126 (lv_at hl 6 rfl) ?_
                    obtain ⟨hi_23, h⟩ := sI_s h
                    refine va_iast hx hb hK.1 hP hD hS 10 0 rfl rfl hi_23 dX6_weigh_128 (fun H locs hP hD hS => ?_)
                    obtain ⟨move6_24, emove6_24⟩ : ∃ z, z = upd move6 (Int32.toNatClampNeg x5_12) i4 := ⟨_, rfl⟩
                    have h := h move6_24 emove6_24
                    rw [← emove6_24] at hP hD
                    have hP : va_P D vwK (w6 cI cJ h6 labels6a guesses6a comes6a sizes6a words6a told6a behind6a shares6a start6a move6a show6a signs6a many6a bestPath6a nextStart6a nextMove6a nextShow6a thrown6_1 rows6 labels6 guesses6 comes6 sizes6 words6 up6 down6 weightAbove6 weightBelow6 told6 length6 behind6 shares6 over6 start6 move6_24 show6 signs6 many6 bestPath6 nextStart6 nextMove6 nextShow6) H := hP
                    have hD : va_D A (w6 cI cJ h6 labels6a guesses6a comes6a sizes6a words6a told6a behind6a shares6a start6a move6a show6a signs6a many6a bestPath6a nextStart6a nextMove6a nextShow6a thrown6_1 rows6 labels6 guesses6 comes6 sizes6 words6 up6 down6 weightAbove6 weightBelow6 told6 length6 behind6 shares6 over6 start6 move6_24 show6 signs6 many6 bestPath6 nextStart6 nextMove6 nextShow6) := hD
                    refine lv_goto (tgt := 141) hx hb dX6_weigh_129 (by decide) ?_
                    refine lv_iload hx hb dX6_weigh_141 (lv_at hl 0 rfl) ?_
                    cases h
                    exact hret _ _ _ _ hP hD hS dX6_weigh_143
                · have h := it_p c_19 h
                  refine lv_aload_n hx hb dX6_weigh_104 rfl (lv_at hl 2 rfl) ?_
                  refine va_get (D := D) (ci := 5) (v := .ref start6a) (C := RX6) (T := TX6) (N := 25) hx hb hts hinX6 hown hK.1 hP 0 rfl rfl 16 (by decide) hw5 (fun _ h9 => h9) rfl dX6_weigh_105 ?_
                  refine lv_iload_n hx hb dX6_weigh_108 rfl (lv_at hl 4 rfl) ?_
                  refine lv_iload hx hb dX6_weigh_109 (lv_at hl 6 rfl) ?_
                  obtain ⟨hi_25, h⟩ := sI_s h
                  refine va_iast hx hb hK.1 hP hD hS 9 0 rfl rfl hi_25 dX6_weigh_111 (fun H locs hP hD hS => ?_)
                  obtain ⟨start6_26, estart6_26⟩ : ∃ z, z = upd start6 (Int32.toNatClampNeg i2) i4 := ⟨_, rfl⟩
                  have h := h start6_26 estart6_26
                  rw [← estart6_26] at hP hD
                  have hP : va_P D vwK (w6 cI cJ h6 labels6a guesses6a comes6a sizes6a words6a told6a behind6a shares6a start6a move6a show6a signs6a many6a bestPath6a nextStart6a nextMove6a nextShow6a thrown6_1 rows6 labels6 guesses6 comes6 sizes6 words6 up6 down6 weightAbove6 weightBelow6 told6 length6 behind6 shares6 over6 start6_26 move6 show6 signs6 many6 bestPath6 nextStart6 nextMove6 nextShow6) H := hP
                  have hD : va_D A (w6 cI cJ h6 labels6a guesses6a comes6a sizes6a words6a told6a behind6a shares6a start6a move6a show6a signs6a many6a bestPath6a nextStart6a nextMove6a nextShow6a thrown6_1 rows6 labels6 guesses6 comes6 sizes6 words6 up6 down6 weightAbove6 weightBelow6 told6 length6 behind6 shares6 over6 start6_26 move6 show6 signs6 many6 bestPath6 nextStart6 nextMove6 nextShow6) := hD
                  refine lv_goto (tgt := 141) hx hb dX6_weigh_112 (by decide) ?_
                  refine lv_iload hx hb dX6_weigh_141 (lv_at hl 0 rfl) ?_
                  cases h
                  exact hret _ _ _ _ hP hD hS dX6_weigh_143
            · have h := it_p c_14 h
              refine lv_aload_n hx hb dX6_weigh_75 rfl (lv_at hl 1 rfl) ?_
              refine va_get (D := D) (ci := 5) (v := .ref move6a) (C := RX6) (T := TX6) (N := 25) hx hb hts hinX6 hown hK.1 hP 0 rfl rfl 17 (by decide) hw4 (fun _ h9 => h9) rfl dX6_weigh_76 ?_
              refine lv_iload hx hb dX6_weigh_79 (lv_at hl 0 rfl) ?_
              obtain ⟨hi_27, h⟩ := gA_s h
              refine va_iald hx hb hK.1 hP 10 0 rfl rfl hi_27 dX6_weigh_81 ?_
              refine lv_topi (fun v_28 ev_28 => ?_)
              have h := h v_28 ev_28
              refine lv_goto (tgt := 92) hx hb dX6_weigh_82 (by decide) ?_
              refine lv_topi (fun x6_29 ex6_29 => ?_)
              have h := nm_s h x6_29 ex6_29
              refine lv_istore (lv' := [(6, .int x6_29), (5, .int x5_12), (0, .ref h6), (1, .int i1), (2, .int i2), (3, .int i3), (4, .int i4)]) hx hb dX6_weigh_92 hl (by decide) rfl (fun ls hl => ?_)
              refine lv_iload hx hb dX6_weigh_94 (lv_at hl 6 rfl) ?_
              refine lv_iconst (v := (-1)) hx hb dX6_weigh_96 (by decide) ?_
              refine lv_icmp_eq (tgt := 141) hx hb dX6_weigh_97 (by decide) (fun c_30 => ?_) (fun c_30 => ?_)
              · have h := it_p c_30 h
                refine lv_iload hx hb dX6_weigh_141 (lv_at hl 0 rfl) ?_
                cases h
                exact hret _ _ _ _ hP hD hS dX6_weigh_143
              · have h := it_n c_30 h
                refine lv_iload_n hx hb dX6_weigh_100 rfl (lv_at hl 3 rfl) ?_
                refine lv_if_ne (tgt := 115) hx hb dX6_weigh_101 (by decide) (fun c_31 => ?_) (fun c_31 => ?_)
                · have h := it_n c_31 h
                  refine lv_iload_n hx hb dX6_weigh_115 rfl (lv_at hl 3 rfl) ?_
                  refine lv_iconst (v := 1) hx hb dX6_weigh_116 (by decide) ?_
                  refine lv_icmp_ne (tgt := 132) hx hb dX6_weigh_117 (by decide) (fun c_32 => ?_) (fun c_32 => ?_)
                  · have h := it_n c_32 h
                    refine lv_aload_n hx hb dX6_weigh_132 rfl (lv_at hl 2 rfl) ?_
                    refine va_get (D := D) (ci := 5) (v := .ref show6a) (C := RX6) (T := TX6) (N := 25) hx hb hts hinX6 hown hK.1 hP 0 rfl rfl 18 (by decide) hw3 (fun _ h9 => h9) rfl dX6_weigh_133 ?_
                    refine lv_iload hx hb dX6_weigh_136 (lv_at hl 1 rfl) ?_
                    refine lv_iload hx hb dX6_weigh_138 (lv_at hl 6 rfl) ?_
                    obtain ⟨hi_33, h⟩ := sI_s h
                    refine va_iast hx hb hK.1 hP hD hS 11 0 rfl rfl hi_33 dX6_weigh_140 (fun H locs hP hD hS => ?_)
                    obtain ⟨show6_34, eshow6_34⟩ : ∃ z, z = upd show6 (Int32.toNatClampNeg x5_12) i4 := ⟨_, rfl⟩
                    have h := h show6_34 eshow6_34
                    rw [← eshow6_34] at hP hD
                    have hP : va_P D vwK (w6 cI cJ h6 labels6a guesses6a comes6a sizes6a words6a told6a behind6a shares6a start6a move6a show6a signs6a many6a bestPath6a nextStart6a nextMove6a nextShow6a thrown6_1 rows6 labels6 guesses6 comes6 sizes6 words6 up6 down6 weightAbove6 weightBelow6 told6 length6 behind6 shares6 over6 start6 move6 show6_34 signs6 many6 bestPath6 nextStart6 nextMove6 nextShow6) H := hP
                    have hD : va_D A (w6 cI cJ h6 labels6a guesses6a comes6a sizes6a words6a told6a behind6a shares6a start6a move6a show6a signs6a many6a bestPath6a nextStart6a nextMove6a nextShow6a thrown6_1 rows6 labels6 guesses6 comes6 sizes6 words6 up6 down6 weightAbove6 weightBelow6 told6 length6 behind6 shares6 over6 start6 move6 show6_34 signs6 many6 bestPath6 nextStart6 nextMove6 nextShow6) := hD
                    refine lv_iload hx hb dX6_weigh_141 (lv_at hl 0 rfl) ?_
                    cases h
                    exact hret _ _ _ _ hP hD hS dX6_weigh_143
                  · have h := it_p c_32 h
                    refine lv_aload_n hx hb dX6_weigh_120 rfl (lv_at hl 2 rfl) ?_
                    refine va_get (D := D) (ci := 5) (v := .ref move6a) (C := RX6) (T := TX6) (N := 25) hx hb hts hinX6 hown hK.1 hP 0 rfl rfl 17 (by decide) hw4 (fun _ h9 => h9) rfl dX6_weigh_121 ?_
                    refine lv_iload hx hb dX6_weigh_124 (lv_at hl 1 rfl) ?_
                    refine lv_iload hx hb dX6_weigh_126 (lv_at hl 6 rfl) ?_
                    obtain ⟨hi_35, h⟩ := sI_s h
                    refine va_iast hx hb hK.1 hP hD hS 10 0 rfl rfl hi_35 dX6_weigh_128 (fun H locs hP hD hS => ?_)
                    obtain ⟨move6_36, emove6_36⟩ : ∃ z, z = upd move6 (Int32.toNatClampNeg x5_12) i4 := ⟨_, rfl⟩
                    have h := h move6_36 emove6_36
                    rw [← emove6_36] at hP hD
                    have hP : va_P D vwK (w6 cI cJ h6 labels6a guesses6a comes6a sizes6a words6a told6a behind6a shares6a start6a move6a show6a signs6a many6a bestPath6a nextStart6a nextMove6a nextShow6a thrown6_1 rows6 labels6 guesses6 comes6 sizes6 words6 up6 down6 weightAbove6 weightBelow6 told6 length6 behind6 shares6 over6 start6 move6_36 show6 signs6 many6 bestPath6 nextStart6 nextMove6 nextShow6) H := hP
                    have hD : va_D A (w6 cI cJ h6 labels6a guesses6a comes6a sizes6a words6a told6a behind6a shares6a start6a move6a show6a signs6a many6a bestPath6a nextStart6a nextMove6a nextShow6a thrown6_1 rows6 labels6 guesses6 comes6 sizes6 words6 up6 down6 weightAbove6 weightBelow6 told6 length6 behind6 shares6 over6 start6 move6_36 show6 signs6 many6 bestPath6 nextStart6 nextMove6 nextShow6) := hD
                    refine lv_goto (tgt := 141) hx hb dX6_weigh_129 (by decide) ?_
                    refine lv_iload hx hb dX6_weigh_141 (lv_at hl 0 rfl) ?_
                    cases h
                    exact hret _ _ _ _ hP hD hS dX6_weigh_143
                · have h := it_p c_31 h
                  refine lv_aload_n hx hb dX6_weigh_104 rfl (lv_at hl 2 rfl) ?_
                  refine va_get (D := D) (ci := 5) (v := .ref start6a) (C := RX6) (T := TX6) (N := 25) hx hb hts hinX6 hown hK.1 hP 0 rfl rfl 16 (by decide) hw5 (fun _ h9 => h9) rfl dX6_weigh_105 ?_
                  refine lv_iload_n hx hb dX6_weigh_108 rfl (lv_at hl 4 rfl) ?_
                  refine lv_iload hx hb dX6_weigh_109 (lv_at hl 6 rfl) ?_
                  obtain ⟨hi_37, h⟩ := sI_s h
                  refine va_iast hx hb hK.1 hP hD hS 9 0 rfl rfl hi_37 dX6_weigh_111 (fun H locs hP hD hS => ?_)
                  obtain ⟨start6_38, estart6_38⟩ : ∃ z, z = upd start6 (Int32.toNatClampNeg i2) i4 := ⟨_, rfl⟩
                  have h := h start6_38 estart6_38
                  rw [← estart6_38] at hP hD
                  have hP : va_P D vwK (w6 cI cJ h6 labels6a guesses6a comes6a sizes6a words6a told6a behind6a shares6a start6a move6a show6a signs6a many6a bestPath6a nextStart6a nextMove6a nextShow6a thrown6_1 rows6 labels6 guesses6 comes6 sizes6 words6 up6 down6 weightAbove6 weightBelow6 told6 length6 behind6 shares6 over6 start6_38 move6 show6 signs6 many6 bestPath6 nextStart6 nextMove6 nextShow6) H := hP
                  have hD : va_D A (w6 cI cJ h6 labels6a guesses6a comes6a sizes6a words6a told6a behind6a shares6a start6a move6a show6a signs6a many6a bestPath6a nextStart6a nextMove6a nextShow6a thrown6_1 rows6 labels6 guesses6 comes6 sizes6 words6 up6 down6 weightAbove6 weightBelow6 told6 length6 behind6 shares6 over6 start6_38 move6 show6 signs6 many6 bestPath6 nextStart6 nextMove6 nextShow6) := hD
                  refine lv_goto (tgt := 141) hx hb dX6_weigh_112 (by decide) ?_
                  refine lv_iload hx hb dX6_weigh_141 (lv_at hl 0 rfl) ?_
                  cases h
                  exact hret _ _ _ _ hP hD hS dX6_weigh_143
          · have h := it_p c_13 h
            refine lv_aload_n hx hb dX6_weigh_61 rfl (lv_at hl 1 rfl) ?_
            refine va_get (D := D) (ci := 5) (v := .ref start6a) (C := RX6) (T := TX6) (N := 25) hx hb hts hinX6 hown hK.1 hP 0 rfl rfl 16 (by decide) hw5 (fun _ h9 => h9) rfl dX6_weigh_62 ?_
            refine lv_iload_n hx hb dX6_weigh_65 rfl (lv_at hl 3 rfl) ?_
            obtain ⟨hi_39, h⟩ := gA_s h
            refine va_iald hx hb hK.1 hP 9 0 rfl rfl hi_39 dX6_weigh_66 ?_
            refine lv_topi (fun v_40 ev_40 => ?_)
            have h := h v_40 ev_40
            refine lv_goto (tgt := 92) hx hb dX6_weigh_67 (by decide) ?_
            refine lv_topi (fun x6_41 ex6_41 => ?_)
            have h := nm_s h x6_41 ex6_41
            refine lv_istore (lv' := [(6, .int x6_41), (5, .int x5_12), (0, .ref h6), (1, .int i1), (2, .int i2), (3, .int i3), (4, .int i4)]) hx hb dX6_weigh_92 hl (by decide) rfl (fun ls hl => ?_)
            refine lv_iload hx hb dX6_weigh_94 (lv_at hl 6 rfl) ?_
            refine lv_iconst (v := (-1)) hx hb dX6_weigh_96 (by decide) ?_
            refine lv_icmp_eq (tgt := 141) hx hb dX6_weigh_97 (by decide) (fun c_42 => ?_) (fun c_42 => ?_)
            · have h := it_p c_42 h
              refine lv_iload hx hb dX6_weigh_141 (lv_at hl 0 rfl) ?_
              cases h
              exact hret _ _ _ _ hP hD hS dX6_weigh_143
            · have h := it_n c_42 h
              refine lv_iload_n hx hb dX6_weigh_100 rfl (lv_at hl 3 rfl) ?_
              refine lv_if_ne (tgt := 115) hx hb dX6_weigh_101 (by decide) (fun c_43 => ?_) (fun c_43 => ?_)
              · have h := it_n c_43 h
                refine lv_iload_n hx hb dX6_weigh_115 rfl (lv_at hl 3 rfl) ?_
                refine lv_iconst (v := 1) hx hb dX6_weigh_116 (by decide) ?_
                refine lv_icmp_ne (tgt := 132) hx hb dX6_weigh_117 (by decide) (fun c_44 => ?_) (fun c_44 => ?_)
                · have h := it_n c_44 h
                  refine lv_aload_n hx hb dX6_weigh_132 rfl (lv_at hl 2 rfl) ?_
                  refine va_get (D := D) (ci := 5) (v := .ref show6a) (C := RX6) (T := TX6) (N := 25) hx hb hts hinX6 hown hK.1 hP 0 rfl rfl 18 (by decide) hw3 (fun _ h9 => h9) rfl dX6_weigh_133 ?_
                  refine lv_iload hx hb dX6_weigh_136 (lv_at hl 1 rfl) ?_
                  refine lv_iload hx hb dX6_weigh_138 (lv_at hl 6 rfl) ?_
                  obtain ⟨hi_45, h⟩ := sI_s h
                  refine va_iast hx hb hK.1 hP hD hS 11 0 rfl rfl hi_45 dX6_weigh_140 (fun H locs hP hD hS => ?_)
                  obtain ⟨show6_46, eshow6_46⟩ : ∃ z, z = upd show6 (Int32.toNatClampNeg x5_12) i4 := ⟨_, rfl⟩
                  have h := h show6_46 eshow6_46
                  rw [← eshow6_46] at hP hD
                  have hP : va_P D vwK (w6 cI cJ h6 labels6a guesses6a comes6a sizes6a words6a told6a behind6a shares6a start6a move6a show6a signs6a many6a bestPath6a nextStart6a nextMove6a nextShow6a thrown6_1 rows6 labels6 guesses6 comes6 sizes6 words6 up6 down6 weightAbove6 weightBelow6 told6 length6 behind6 shares6 over6 start6 move6 show6_46 signs6 many6 bestPath6 nextStart6 nextMove6 nextShow6) H := hP
                  have hD : va_D A (w6 cI cJ h6 labels6a guesses6a comes6a sizes6a words6a told6a behind6a shares6a start6a move6a show6a signs6a many6a bestPath6a nextStart6a nextMove6a nextShow6a thrown6_1 rows6 labels6 guesses6 comes6 sizes6 words6 up6 down6 weightAbove6 weightBelow6 told6 length6 behind6 shares6 over6 start6 move6 show6_46 signs6 many6 bestPath6 nextStart6 nextMove6 nextShow6) := hD
                  refine lv_iload hx hb dX6_weigh_141 (lv_at hl 0 rfl) ?_
                  cases h
                  exact hret _ _ _ _ hP hD hS dX6_weigh_143
                · have h := it_p c_44 h
                  refine lv_aload_n hx hb dX6_weigh_120 rfl (lv_at hl 2 rfl) ?_
                  refine va_get (D := D) (ci := 5) (v := .ref move6a) (C := RX6) (T := TX6) (N := 25) hx hb hts hinX6 hown hK.1 hP 0 rfl rfl 17 (by decide) hw4 (fun _ h9 => h9) rfl dX6_weigh_121 ?_
                  refine lv_iload hx hb dX6_weigh_124 (lv_at hl 1 rfl) ?_
                  refine lv_iload hx hb dX6_weigh_126 (lv_at hl 6 rfl) ?_
                  obtain ⟨hi_47, h⟩ := sI_s h
                  refine va_iast hx hb hK.1 hP hD hS 10 0 rfl rfl hi_47 dX6_weigh_128 (fun H locs hP hD hS => ?_)
                  obtain ⟨move6_48, emove6_48⟩ : ∃ z, z = upd move6 (Int32.toNatClampNeg x5_12) i4 := ⟨_, rfl⟩
                  have h := h move6_48 emove6_48
                  rw [← emove6_48] at hP hD
                  have hP : va_P D vwK (w6 cI cJ h6 labels6a guesses6a comes6a sizes6a words6a told6a behind6a shares6a start6a move6a show6a signs6a many6a bestPath6a nextStart6a nextMove6a nextShow6a thrown6_1 rows6 labels6 guesses6 comes6 sizes6 words6 up6 down6 weightAbove6 weightBelow6 told6 length6 behind6 shares6 over6 start6 move6_48 show6 signs6 many6 bestPath6 nextStart6 nextMove6 nextShow6) H := hP
                  have hD : va_D A (w6 cI cJ h6 labels6a guesses6a comes6a sizes6a words6a told6a behind6a shares6a start6a move6a show6a signs6a many6a bestPath6a nextStart6a nextMove6a nextShow6a thrown6_1 rows6 labels6 guesses6 comes6 sizes6 words6 up6 down6 weightAbove6 weightBelow6 told6 length6 behind6 shares6 over6 start6 move6_48 show6 signs6 many6 bestPath6 nextStart6 nextMove6 nextShow6) := hD
                  refine lv_goto (tgt := 141) hx hb dX6_weigh_129 (by decide) ?_
                  refine lv_iload hx hb dX6_weigh_141 (lv_at hl 0 rfl) ?_
                  cases h
                  exact hret _ _ _ _ hP hD hS dX6_weigh_143
              · have h := it_p c_43 h
                refine lv_aload_n hx hb dX6_weigh_104 rfl (lv_at hl 2 rfl) ?_
                refine va_get (D := D) (ci := 5) (v := .ref start6a) (C := RX6) (T := TX6) (N := 25) hx hb hts hinX6 hown hK.1 hP 0 rfl rfl 16 (by decide) hw5 (fun _ h9 => h9) rfl dX6_weigh_105 ?_
                refine lv_iload_n hx hb dX6_weigh_108 rfl (lv_at hl 4 rfl) ?_
                refine lv_iload hx hb dX6_weigh_109 (lv_at hl 6 rfl) ?_
                obtain ⟨hi_49, h⟩ := sI_s h
                refine va_iast hx hb hK.1 hP hD hS 9 0 rfl rfl hi_49 dX6_weigh_111 (fun H locs hP hD hS => ?_)
                obtain ⟨start6_50, estart6_50⟩ : ∃ z, z = upd start6 (Int32.toNatClampNeg i2) i4 := ⟨_, rfl⟩
                have h := h start6_50 estart6_50
                rw [← estart6_50] at hP hD
                have hP : va_P D vwK (w6 cI cJ h6 labels6a guesses6a comes6a sizes6a words6a told6a behind6a shares6a start6a move6a show6a signs6a many6a bestPath6a nextStart6a nextMove6a nextShow6a thrown6_1 rows6 labels6 guesses6 comes6 sizes6 words6 up6 down6 weightAbove6 weightBelow6 told6 length6 behind6 shares6 over6 start6_50 move6 show6 signs6 many6 bestPath6 nextStart6 nextMove6 nextShow6) H := hP
                have hD : va_D A (w6 cI cJ h6 labels6a guesses6a comes6a sizes6a words6a told6a behind6a shares6a start6a move6a show6a signs6a many6a bestPath6a nextStart6a nextMove6a nextShow6a thrown6_1 rows6 labels6 guesses6 comes6 sizes6 words6 up6 down6 weightAbove6 weightBelow6 told6 length6 behind6 shares6 over6 start6_50 move6 show6 signs6 many6 bestPath6 nextStart6 nextMove6 nextShow6) := hD
                refine lv_goto (tgt := 141) hx hb dX6_weigh_112 (by decide) ?_
                refine lv_iload hx hb dX6_weigh_141 (lv_at hl 0 rfl) ?_
                cases h
                exact hret _ _ _ _ hP hD hS dX6_weigh_143
        · have h := it_p c_11 h
          refine lv_bipush (v := (-2)) hx hb dX6_weigh_47 (by decide) ?_
          cases h
          exact hret _ _ _ _ hP hD hS dX6_weigh_49
      · have h := it_n c_8 h
        refine lv_iload_n hx hb dX6_weigh_27 rfl (lv_at hl 3 rfl) ?_
        refine lv_iconst (v := 0) hx hb dX6_weigh_28 (by decide) ?_
        refine lv_iconst (v := 3) hx hb dX6_weigh_29 (by decide) ?_
        obtain ⟨r_51, hc_52, h⟩ := bd_s h
        refine callPi (As := [.int i3, .int 0, .int 3]) (rest := []) ⟨hx, hb, hml, hown, hts⟩ (c_X6_within l D cI cJ i3 0 3 r_51 hc_52) (va_cwS 3 hts gX6_weigh_X6_within rfl rfl rfl (by decide +kernel) ⟨Nat.le_of_ble_eq_true rfl, Nat.le_of_ble_eq_true rfl⟩) hK hP hD hS hA rfl hl.1 rfl (Nat.le_of_ble_eq_true rfl) dX6_weigh_30 ⟨Nat.zero_le _, Nat.zero_le _⟩ (fun H locs hP hD hS => ?_)
        refine lv_if_eq (tgt := 47) hx hb dX6_weigh_33 (by decide) (fun c_53 => ?_) (fun c_53 => ?_)
        · have h := it_p c_53 h
          refine lv_bipush (v := (-2)) hx hb dX6_weigh_47 (by decide) ?_
          cases h
          exact hret _ _ _ _ hP hD hS dX6_weigh_49
        · have h := it_n c_53 h
          refine lv_iload hx hb dX6_weigh_36 (lv_at hl 4 rfl) ?_
          refine lv_iconst (v := (-1)) hx hb dX6_weigh_38 (by decide) ?_
          refine lv_bipush (v := 21) hx hb dX6_weigh_39 (by decide) ?_
          obtain ⟨r_54, hc_55, h⟩ := bd_s h
          refine callPi (As := [.int i4, .int (-1), .int 21]) (rest := []) ⟨hx, hb, hml, hown, hts⟩ (c_X6_within l D cI cJ i4 (-1) 21 r_54 hc_55) (va_cwS 3 hts gX6_weigh_X6_within rfl rfl rfl (by decide +kernel) ⟨Nat.le_of_ble_eq_true rfl, Nat.le_of_ble_eq_true rfl⟩) hK hP hD hS hA rfl hl.1 rfl (Nat.le_of_ble_eq_true rfl) dX6_weigh_41 ⟨Nat.zero_le _, Nat.zero_le _⟩ (fun H locs hP hD hS => ?_)
          refine lv_if_ne (tgt := 50) hx hb dX6_weigh_44 (by decide) (fun c_56 => ?_) (fun c_56 => ?_)
          · have h := it_n c_56 h
            refine lv_iconst (v := 4) hx hb dX6_weigh_50 (by decide) ?_
            refine lv_iload_n hx hb dX6_weigh_51 rfl (lv_at hl 2 rfl) ?_
            refine lv_imul hx hb dX6_weigh_52 ?_
            refine lv_iload_n hx hb dX6_weigh_53 rfl (lv_at hl 3 rfl) ?_
            refine lv_iadd hx hb dX6_weigh_54 ?_
            refine lv_topi (fun x5_57 ex5_57 => ?_)
            have h := nm_s h x5_57 ex5_57
            refine lv_istore (lv' := [(5, .int x5_57), (0, .ref h6), (1, .int i1), (2, .int i2), (3, .int i3), (4, .int i4)]) hx hb dX6_weigh_55 hl (by decide) rfl (fun ls hl => ?_)
            refine lv_iload_n hx hb dX6_weigh_57 rfl (lv_at hl 2 rfl) ?_
            refine lv_if_ne (tgt := 70) hx hb dX6_weigh_58 (by decide) (fun c_58 => ?_) (fun c_58 => ?_)
            · have h := it_n c_58 h
              refine lv_iload_n hx hb dX6_weigh_70 rfl (lv_at hl 2 rfl) ?_
              refine lv_iconst (v := 1) hx hb dX6_weigh_71 (by decide) ?_
              refine lv_icmp_ne (tgt := 85) hx hb dX6_weigh_72 (by decide) (fun c_59 => ?_) (fun c_59 => ?_)
              · have h := it_n c_59 h
                refine lv_aload_n hx hb dX6_weigh_85 rfl (lv_at hl 1 rfl) ?_
                refine va_get (D := D) (ci := 5) (v := .ref show6a) (C := RX6) (T := TX6) (N := 25) hx hb hts hinX6 hown hK.1 hP 0 rfl rfl 18 (by decide) hw3 (fun _ h9 => h9) rfl dX6_weigh_86 ?_
                refine lv_iload hx hb dX6_weigh_89 (lv_at hl 0 rfl) ?_
                obtain ⟨hi_60, h⟩ := gA_s h
                refine va_iald hx hb hK.1 hP 11 0 rfl rfl hi_60 dX6_weigh_91 ?_
                refine lv_topi (fun v_61 ev_61 => ?_)
                have h := h v_61 ev_61
                refine lv_topi (fun x6_62 ex6_62 => ?_)
                have h := nm_s h x6_62 ex6_62
                refine lv_istore (lv' := [(6, .int x6_62), (5, .int x5_57), (0, .ref h6), (1, .int i1), (2, .int i2), (3, .int i3), (4, .int i4)]) hx hb dX6_weigh_92 hl (by decide) rfl (fun ls hl => ?_)
                refine lv_iload hx hb dX6_weigh_94 (lv_at hl 6 rfl) ?_
                refine lv_iconst (v := (-1)) hx hb dX6_weigh_96 (by decide) ?_
                refine lv_icmp_eq (tgt := 141) hx hb dX6_weigh_97 (by decide) (fun c_63 => ?_) (fun c_63 => ?_)
                · have h := it_p c_63 h
                  refine lv_iload hx hb dX6_weigh_141 (lv_at hl 0 rfl) ?_
                  cases h
                  exact hret _ _ _ _ hP hD hS dX6_weigh_143
                · have h := it_n c_63 h
                  refine lv_iload_n hx hb dX6_weigh_100 rfl (lv_at hl 3 rfl) ?_
                  refine lv_if_ne (tgt := 115) hx hb dX6_weigh_101 (by decide) (fun c_64 => ?_) (fun c_64 => ?_)
                  · have h := it_n c_64 h
                    refine lv_iload_n hx hb dX6_weigh_115 rfl (lv_at hl 3 rfl) ?_
                    refine lv_iconst (v := 1) hx hb dX6_weigh_116 (by decide) ?_
                    refine lv_icmp_ne (tgt := 132) hx hb dX6_weigh_117 (by decide) (fun c_65 => ?_) (fun c_65 => ?_)
                    · have h := it_n c_65 h
                      refine lv_aload_n hx hb dX6_weigh_132 rfl (lv_at hl 2 rfl) ?_
                      refine va_get (D := D) (ci := 5) (v := .ref show6a) (C := RX6) (T := TX6) (N := 25) hx hb hts hinX6 hown hK.1 hP 0 rfl rfl 18 (by decide) hw3 (fun _ h9 => h9) rfl dX6_weigh_133 ?_
                      refine lv_iload hx hb dX6_weigh_136 (lv_at hl 1 rfl) ?_
                      refine lv_iload hx hb dX6_weigh_138 (lv_at hl 6 rfl) ?_
                      obtain ⟨hi_66, h⟩ := sI_s h
                      refine va_iast hx hb hK.1 hP hD hS 11 0 rfl rfl hi_66 dX6_weigh_140 (fun H locs hP hD hS => ?_)
                      obtain ⟨show6_67, eshow6_67⟩ : ∃ z, z = upd show6 (Int32.toNatClampNeg x5_57) i4 := ⟨_, rfl⟩
                      have h := h show6_67 eshow6_67
                      rw [← eshow6_67] at hP hD
                      have hP : va_P D vwK (w6 cI cJ h6 labels6a guesses6a comes6a sizes6a words6a told6a behind6a shares6a start6a move6a show6a signs6a many6a bestPath6a nextStart6a nextMove6a nextShow6a thrown6_1 rows6 labels6 guesses6 comes6 sizes6 words6 up6 down6 weightAbove6 weightBelow6 told6 length6 behind6 shares6 over6 start6 move6 show6_67 signs6 many6 bestPath6 nextStart6 nextMove6 nextShow6) H := hP
                      have hD : va_D A (w6 cI cJ h6 labels6a guesses6a comes6a sizes6a words6a told6a behind6a shares6a start6a move6a show6a signs6a many6a bestPath6a nextStart6a nextMove6a nextShow6a thrown6_1 rows6 labels6 guesses6 comes6 sizes6 words6 up6 down6 weightAbove6 weightBelow6 told6 length6 behind6 shares6 over6 start6 move6 show6_67 signs6 many6 bestPath6 nextStart6 nextMove6 nextShow6) := hD
                      refine lv_iload hx hb dX6_weigh_141 (lv_at hl 0 rfl) ?_
                      cases h
                      exact hret _ _ _ _ hP hD hS dX6_weigh_143
                    · have h := it_p c_65 h
                      refine lv_aload_n hx hb dX6_weigh_120 rfl (lv_at hl 2 rfl) ?_
                      refine va_get (D := D) (ci := 5) (v := .ref move6a) (C := RX6) (T := TX6) (N := 25) hx hb hts hinX6 hown hK.1 hP 0 rfl rfl 17 (by decide) hw4 (fun _ h9 => h9) rfl dX6_weigh_121 ?_
                      refine lv_iload hx hb dX6_weigh_124 (lv_at hl 1 rfl) ?_
                      refine lv_iload hx hb dX6_weigh_126 (lv_at hl 6 rfl) ?_
                      obtain ⟨hi_68, h⟩ := sI_s h
                      refine va_iast hx hb hK.1 hP hD hS 10 0 rfl rfl hi_68 dX6_weigh_128 (fun H locs hP hD hS => ?_)
                      obtain ⟨move6_69, emove6_69⟩ : ∃ z, z = upd move6 (Int32.toNatClampNeg x5_57) i4 := ⟨_, rfl⟩
                      have h := h move6_69 emove6_69
                      rw [← emove6_69] at hP hD
                      have hP : va_P D vwK (w6 cI cJ h6 labels6a guesses6a comes6a sizes6a words6a told6a behind6a shares6a start6a move6a show6a signs6a many6a bestPath6a nextStart6a nextMove6a nextShow6a thrown6_1 rows6 labels6 guesses6 comes6 sizes6 words6 up6 down6 weightAbove6 weightBelow6 told6 length6 behind6 shares6 over6 start6 move6_69 show6 signs6 many6 bestPath6 nextStart6 nextMove6 nextShow6) H := hP
                      have hD : va_D A (w6 cI cJ h6 labels6a guesses6a comes6a sizes6a words6a told6a behind6a shares6a start6a move6a show6a signs6a many6a bestPath6a nextStart6a nextMove6a nextShow6a thrown6_1 rows6 labels6 guesses6 comes6 sizes6 words6 up6 down6 weightAbove6 weightBelow6 told6 length6 behind6 shares6 over6 start6 move6_69 show6 signs6 many6 bestPath6 nextStart6 nextMove6 nextShow6) := hD
                      refine lv_goto (tgt := 141) hx hb dX6_weigh_129 (by decide) ?_
                      refine lv_iload hx hb dX6_weigh_141 (lv_at hl 0 rfl) ?_
                      cases h
                      exact hret _ _ _ _ hP hD hS dX6_weigh_143
                  · have h := it_p c_64 h
                    refine lv_aload_n hx hb dX6_weigh_104 rfl (lv_at hl 2 rfl) ?_
                    refine va_get (D := D) (ci := 5) (v := .ref start6a) (C := RX6) (T := TX6) (N := 25) hx hb hts hinX6 hown hK.1 hP 0 rfl rfl 16 (by decide) hw5 (fun _ h9 => h9) rfl dX6_weigh_105 ?_
                    refine lv_iload_n hx hb dX6_weigh_108 rfl (lv_at hl 4 rfl) ?_
                    refine lv_iload hx hb dX6_weigh_109 (lv_at hl 6 rfl) ?_
                    obtain ⟨hi_70, h⟩ := sI_s h
                    refine va_iast hx hb hK.1 hP hD hS 9 0 rfl rfl hi_70 dX6_weigh_111 (fun H locs hP hD hS => ?_)
                    obtain ⟨start6_71, estart6_71⟩ : ∃ z, z = upd start6 (Int32.toNatClampNeg i2) i4 := ⟨_, rfl⟩
                    have h := h start6_71 estart6_71
                    rw [← estart6_71] at hP hD
                    have hP : va_P D vwK (w6 cI cJ h6 labels6a guesses6a comes6a sizes6a words6a told6a behind6a shares6a start6a move6a show6a signs6a many6a bestPath6a nextStart6a nextMove6a nextShow6a thrown6_1 rows6 labels6 guesses6 comes6 sizes6 words6 up6 down6 weightAbove6 weightBelow6 told6 length6 behind6 shares6 over6 start6_71 move6 show6 signs6 many6 bestPath6 nextStart6 nextMove6 nextShow6) H := hP
                    have hD : va_D A (w6 cI cJ h6 labels6a guesses6a comes6a sizes6a words6a told6a behind6a shares6a start6a move6a show6a signs6a many6a bestPath6a nextStart6a nextMove6a nextShow6a thrown6_1 rows6 labels6 guesses6 comes6 sizes6 words6 up6 down6 weightAbove6 weightBelow6 told6 length6 behind6 shares6 over6 start6_71 move6 show6 signs6 many6 bestPath6 nextStart6 nextMove6 nextShow6) := hD
                    refine lv_goto (tgt := 141) hx hb dX6_weigh_112 (by decide) ?_
                    refine lv_iload hx hb dX6_weigh_141 (lv_at hl 0 rfl) ?_
                    cases h
                    exact hret _ _ _ _ hP hD hS dX6_weigh_143
              · have h := it_p c_59 h
                refine lv_aload_n hx hb dX6_weigh_75 rfl (lv_at hl 1 rfl) ?_
                refine va_get (D := D) (ci := 5) (v := .ref move6a) (C := RX6) (T := TX6) (N := 25) hx hb hts hinX6 hown hK.1 hP 0 rfl rfl 17 (by decide) hw4 (fun _ h9 => h9) rfl dX6_weigh_76 ?_
                refine lv_iload hx hb dX6_weigh_79 (lv_at hl 0 rfl) ?_
                obtain ⟨hi_72, h⟩ := gA_s h
                refine va_iald hx hb hK.1 hP 10 0 rfl rfl hi_72 dX6_weigh_81 ?_
                refine lv_topi (fun v_73 ev_73 => ?_)
                have h := h v_73 ev_73
                refine lv_goto (tgt := 92) hx hb dX6_weigh_82 (by decide) ?_
                refine lv_topi (fun x6_74 ex6_74 => ?_)
                have h := nm_s h x6_74 ex6_74
                refine lv_istore (lv' := [(6, .int x6_74), (5, .int x5_57), (0, .ref h6), (1, .int i1), (2, .int i2), (3, .int i3), (4, .int i4)]) hx hb dX6_weigh_92 hl (by decide) rfl (fun ls hl => ?_)
                refine lv_iload hx hb dX6_weigh_94 (lv_at hl 6 rfl) ?_
                refine lv_iconst (v := (-1)) hx hb dX6_weigh_96 (by decide) ?_
                refine lv_icmp_eq (tgt := 141) hx hb dX6_weigh_97 (by decide) (fun c_75 => ?_) (fun c_75 => ?_)
                · have h := it_p c_75 h
                  refine lv_iload hx hb dX6_weigh_141 (lv_at hl 0 rfl) ?_
                  cases h
                  exact hret _ _ _ _ hP hD hS dX6_weigh_143
                · have h := it_n c_75 h
                  refine lv_iload_n hx hb dX6_weigh_100 rfl (lv_at hl 3 rfl) ?_
                  refine lv_if_ne (tgt := 115) hx hb dX6_weigh_101 (by decide) (fun c_76 => ?_) (fun c_76 => ?_)
                  · have h := it_n c_76 h
                    refine lv_iload_n hx hb dX6_weigh_115 rfl (lv_at hl 3 rfl) ?_
                    refine lv_iconst (v := 1) hx hb dX6_weigh_116 (by decide) ?_
                    refine lv_icmp_ne (tgt := 132) hx hb dX6_weigh_117 (by decide) (fun c_77 => ?_) (fun c_77 => ?_)
                    · have h := it_n c_77 h
                      refine lv_aload_n hx hb dX6_weigh_132 rfl (lv_at hl 2 rfl) ?_
                      refine va_get (D := D) (ci := 5) (v := .ref show6a) (C := RX6) (T := TX6) (N := 25) hx hb hts hinX6 hown hK.1 hP 0 rfl rfl 18 (by decide) hw3 (fun _ h9 => h9) rfl dX6_weigh_133 ?_
                      refine lv_iload hx hb dX6_weigh_136 (lv_at hl 1 rfl) ?_
                      refine lv_iload hx hb dX6_weigh_138 (lv_at hl 6 rfl) ?_
                      obtain ⟨hi_78, h⟩ := sI_s h
                      refine va_iast hx hb hK.1 hP hD hS 11 0 rfl rfl hi_78 dX6_weigh_140 (fun H locs hP hD hS => ?_)
                      obtain ⟨show6_79, eshow6_79⟩ : ∃ z, z = upd show6 (Int32.toNatClampNeg x5_57) i4 := ⟨_, rfl⟩
                      have h := h show6_79 eshow6_79
                      rw [← eshow6_79] at hP hD
                      have hP : va_P D vwK (w6 cI cJ h6 labels6a guesses6a comes6a sizes6a words6a told6a behind6a shares6a start6a move6a show6a signs6a many6a bestPath6a nextStart6a nextMove6a nextShow6a thrown6_1 rows6 labels6 guesses6 comes6 sizes6 words6 up6 down6 weightAbove6 weightBelow6 told6 length6 behind6 shares6 over6 start6 move6 show6_79 signs6 many6 bestPath6 nextStart6 nextMove6 nextShow6) H := hP
                      have hD : va_D A (w6 cI cJ h6 labels6a guesses6a comes6a sizes6a words6a told6a behind6a shares6a start6a move6a show6a signs6a many6a bestPath6a nextStart6a nextMove6a nextShow6a thrown6_1 rows6 labels6 guesses6 comes6 sizes6 words6 up6 down6 weightAbove6 weightBelow6 told6 length6 behind6 shares6 over6 start6 move6 show6_79 signs6 many6 bestPath6 nextStart6 nextMove6 nextShow6) := hD
                      refine lv_iload hx hb dX6_weigh_141 (lv_at hl 0 rfl) ?_
                      cases h
                      exact hret _ _ _ _ hP hD hS dX6_weigh_143
                    · have h := it_p c_77 h
                      refine lv_aload_n hx hb dX6_weigh_120 rfl (lv_at hl 2 rfl) ?_
                      refine va_get (D := D) (ci := 5) (v := .ref move6a) (C := RX6) (T := TX6) (N := 25) hx hb hts hinX6 hown hK.1 hP 0 rfl rfl 17 (by decide) hw4 (fun _ h9 => h9) rfl dX6_weigh_121 ?_
                      refine lv_iload hx hb dX6_weigh_124 (lv_at hl 1 rfl) ?_
                      refine lv_iload hx hb dX6_weigh_126 (lv_at hl 6 rfl) ?_
                      obtain ⟨hi_80, h⟩ := sI_s h
                      refine va_iast hx hb hK.1 hP hD hS 10 0 rfl rfl hi_80 dX6_weigh_128 (fun H locs hP hD hS => ?_)
                      obtain ⟨move6_81, emove6_81⟩ : ∃ z, z = upd move6 (Int32.toNatClampNeg x5_57) i4 := ⟨_, rfl⟩
                      have h := h move6_81 emove6_81
                      rw [← emove6_81] at hP hD
                      have hP : va_P D vwK (w6 cI cJ h6 labels6a guesses6a comes6a sizes6a words6a told6a behind6a shares6a start6a move6a show6a signs6a many6a bestPath6a nextStart6a nextMove6a nextShow6a thrown6_1 rows6 labels6 guesses6 comes6 sizes6 words6 up6 down6 weightAbove6 weightBelow6 told6 length6 behind6 shares6 over6 start6 move6_81 show6 signs6 many6 bestPath6 nextStart6 nextMove6 nextShow6) H := hP
                      have hD : va_D A (w6 cI cJ h6 labels6a guesses6a comes6a sizes6a words6a told6a behind6a shares6a start6a move6a show6a signs6a many6a bestPath6a nextStart6a nextMove6a nextShow6a thrown6_1 rows6 labels6 guesses6 comes6 sizes6 words6 up6 down6 weightAbove6 weightBelow6 told6 length6 behind6 shares6 over6 start6 move6_81 show6 signs6 many6 bestPath6 nextStart6 nextMove6 nextShow6) := hD
                      refine lv_goto (tgt := 141) hx hb dX6_weigh_129 (by decide) ?_
                      refine lv_iload hx hb dX6_weigh_141 (lv_at hl 0 rfl) ?_
                      cases h
                      exact hret _ _ _ _ hP hD hS dX6_weigh_143
                  · have h := it_p c_76 h
                    refine lv_aload_n hx hb dX6_weigh_104 rfl (lv_at hl 2 rfl) ?_
                    refine va_get (D := D) (ci := 5) (v := .ref start6a) (C := RX6) (T := TX6) (N := 25) hx hb hts hinX6 hown hK.1 hP 0 rfl rfl 16 (by decide) hw5 (fun _ h9 => h9) rfl dX6_weigh_105 ?_
                    refine lv_iload_n hx hb dX6_weigh_108 rfl (lv_at hl 4 rfl) ?_
                    refine lv_iload hx hb dX6_weigh_109 (lv_at hl 6 rfl) ?_
                    obtain ⟨hi_82, h⟩ := sI_s h
                    refine va_iast hx hb hK.1 hP hD hS 9 0 rfl rfl hi_82 dX6_weigh_111 (fun H locs hP hD hS => ?_)
                    obtain ⟨start6_83, estart6_83⟩ : ∃ z, z = upd start6 (Int32.toNatClampNeg i2) i4 := ⟨_, rfl⟩
                    have h := h start6_83 estart6_83
                    rw [← estart6_83] at hP hD
                    have hP : va_P D vwK (w6 cI cJ h6 labels6a guesses6a comes6a sizes6a words6a told6a behind6a shares6a start6a move6a show6a signs6a many6a bestPath6a nextStart6a nextMove6a nextShow6a thrown6_1 rows6 labels6 guesses6 comes6 sizes6 words6 up6 down6 weightAbove6 weightBelow6 told6 length6 behind6 shares6 over6 start6_83 move6 show6 signs6 many6 bestPath6 nextStart6 nextMove6 nextShow6) H := hP
                    have hD : va_D A (w6 cI cJ h6 labels6a guesses6a comes6a sizes6a words6a told6a behind6a shares6a start6a move6a show6a signs6a many6a bestPath6a nextStart6a nextMove6a nextShow6a thrown6_1 rows6 labels6 guesses6 comes6 sizes6 words6 up6 down6 weightAbove6 weightBelow6 told6 length6 behind6 shares6 over6 start6_83 move6 show6 signs6 many6 bestPath6 nextStart6 nextMove6 nextShow6) := hD
                    refine lv_goto (tgt := 141) hx hb dX6_weigh_112 (by decide) ?_
                    refine lv_iload hx hb dX6_weigh_141 (lv_at hl 0 rfl) ?_
                    cases h
                    exact hret _ _ _ _ hP hD hS dX6_weigh_143
            · have h := it_p c_58 h
              refine lv_aload_n hx hb dX6_weigh_61 rfl (lv_at hl 1 rfl) ?_
              refine va_get (D := D) (ci := 5) (v := .ref start6a) (C := RX6) (T := TX6) (N := 25) hx hb hts hinX6 hown hK.1 hP 0 rfl rfl 16 (by decide) hw5 (fun _ h9 => h9) rfl dX6_weigh_62 ?_
              refine lv_iload_n hx hb dX6_weigh_65 rfl (lv_at hl 3 rfl) ?_
              obtain ⟨hi_84, h⟩ := gA_s h
              refine va_iald hx hb hK.1 hP 9 0 rfl rfl hi_84 dX6_weigh_66 ?_
              refine lv_topi (fun v_85 ev_85 => ?_)
              have h := h v_85 ev_85
              refine lv_goto (tgt := 92) hx hb dX6_weigh_67 (by decide) ?_
              refine lv_topi (fun x6_86 ex6_86 => ?_)
              have h := nm_s h x6_86 ex6_86
              refine lv_istore (lv' := [(6, .int x6_86), (5, .int x5_57), (0, .ref h6), (1, .int i1), (2, .int i2), (3, .int i3), (4, .int i4)]) hx hb dX6_weigh_92 hl (by decide) rfl (fun ls hl => ?_)
              refine lv_iload hx hb dX6_weigh_94 (lv_at hl 6 rfl) ?_
              refine lv_iconst (v := (-1)) hx hb dX6_weigh_96 (by decide) ?_
              refine lv_icmp_eq (tgt := 141) hx hb dX6_weigh_97 (by decide) (fun c_87 => ?_) (fun c_87 => ?_)
              · have h := it_p c_87 h
                refine lv_iload hx hb dX6_weigh_141 (lv_at hl 0 rfl) ?_
                cases h
                exact hret _ _ _ _ hP hD hS dX6_weigh_143
              · have h := it_n c_87 h
                refine lv_iload_n hx hb dX6_weigh_100 rfl (lv_at hl 3 rfl) ?_
                refine lv_if_ne (tgt := 115) hx hb dX6_weigh_101 (by decide) (fun c_88 => ?_) (fun c_88 => ?_)
                · have h := it_n c_88 h
                  refine lv_iload_n hx hb dX6_weigh_115 rfl (lv_at hl 3 rfl) ?_
                  refine lv_iconst (v := 1) hx hb dX6_weigh_116 (by decide) ?_
                  refine lv_icmp_ne (tgt := 132) hx hb dX6_weigh_117 (by decide) (fun c_89 => ?_) (fun c_89 => ?_)
                  · have h := it_n c_89 h
                    refine lv_aload_n hx hb dX6_weigh_132 rfl (lv_at hl 2 rfl) ?_
                    refine va_get (D := D) (ci := 5) (v := .ref show6a) (C := RX6) (T := TX6) (N := 25) hx hb hts hinX6 hown hK.1 hP 0 rfl rfl 18 (by decide) hw3 (fun _ h9 => h9) rfl dX6_weigh_133 ?_
                    refine lv_iload hx hb dX6_weigh_136 (lv_at hl 1 rfl) ?_
                    refine lv_iload hx hb dX6_weigh_138 (lv_at hl 6 rfl) ?_
                    obtain ⟨hi_90, h⟩ := sI_s h
                    refine va_iast hx hb hK.1 hP hD hS 11 0 rfl rfl hi_90 dX6_weigh_140 (fun H locs hP hD hS => ?_)
                    obtain ⟨show6_91, eshow6_91⟩ : ∃ z, z = upd show6 (Int32.toNatClampNeg x5_57) i4 := ⟨_, rfl⟩
                    have h := h show6_91 eshow6_91
                    rw [← eshow6_91] at hP hD
                    have hP : va_P D vwK (w6 cI cJ h6 labels6a guesses6a comes6a sizes6a words6a told6a behind6a shares6a start6a move6a show6a signs6a many6a bestPath6a nextStart6a nextMove6a nextShow6a thrown6_1 rows6 labels6 guesses6 comes6 sizes6 words6 up6 down6 weightAbove6 weightBelow6 told6 length6 behind6 shares6 over6 start6 move6 show6_91 signs6 many6 bestPath6 nextStart6 nextMove6 nextShow6) H := hP
                    have hD : va_D A (w6 cI cJ h6 labels6a guesses6a comes6a sizes6a words6a told6a behind6a shares6a start6a move6a show6a signs6a many6a bestPath6a nextStart6a nextMove6a nextShow6a thrown6_1 rows6 labels6 guesses6 comes6 sizes6 words6 up6 down6 weightAbove6 weightBelow6 told6 length6 behind6 shares6 over6 start6 move6 show6_91 signs6 many6 bestPath6 nextStart6 nextMove6 nextShow6) := hD
                    refine lv_iload hx hb dX6_weigh_141 (lv_at hl 0 rfl) ?_
                    cases h
                    exact hret _ _ _ _ hP hD hS dX6_weigh_143
                  · have h := it_p c_89 h
                    refine lv_aload_n hx hb dX6_weigh_120 rfl (lv_at hl 2 rfl) ?_
                    refine va_get (D := D) (ci := 5) (v := .ref move6a) (C := RX6) (T := TX6) (N := 25) hx hb hts hinX6 hown hK.1 hP 0 rfl rfl 17 (by decide) hw4 (fun _ h9 => h9) rfl dX6_weigh_121 ?_
                    refine lv_iload hx hb dX6_weigh_124 (lv_at hl 1 rfl) ?_
                    refine lv_iload hx hb dX6_weigh_126 (lv_at hl 6 rfl) ?_
                    obtain ⟨hi_92, h⟩ := sI_s h
                    refine va_iast hx hb hK.1 hP hD hS 10 0 rfl rfl hi_92 dX6_weigh_128 (fun H locs hP hD hS => ?_)
                    obtain ⟨move6_93, emove6_93⟩ : ∃ z, z = upd move6 (Int32.toNatClampNeg x5_57) i4 := ⟨_, rfl⟩
                    have h := h move6_93 emove6_93
                    rw [← emove6_93] at hP hD
                    have hP : va_P D vwK (w6 cI cJ h6 labels6a guesses6a comes6a sizes6a words6a told6a behind6a shares6a start6a move6a show6a signs6a many6a bestPath6a nextStart6a nextMove6a nextShow6a thrown6_1 rows6 labels6 guesses6 comes6 sizes6 words6 up6 down6 weightAbove6 weightBelow6 told6 length6 behind6 shares6 over6 start6 move6_93 show6 signs6 many6 bestPath6 nextStart6 nextMove6 nextShow6) H := hP
                    have hD : va_D A (w6 cI cJ h6 labels6a guesses6a comes6a sizes6a words6a told6a behind6a shares6a start6a move6a show6a signs6a many6a bestPath6a nextStart6a nextMove6a nextShow6a thrown6_1 rows6 labels6 guesses6 comes6 sizes6 words6 up6 down6 weightAbove6 weightBelow6 told6 length6 behind6 shares6 over6 start6 move6_93 show6 signs6 many6 bestPath6 nextStart6 nextMove6 nextShow6) := hD
                    refine lv_goto (tgt := 141) hx hb dX6_weigh_129 (by decide) ?_
                    refine lv_iload hx hb dX6_weigh_141 (lv_at hl 0 rfl) ?_
                    cases h
                    exact hret _ _ _ _ hP hD hS dX6_weigh_143
                · have h := it_p c_88 h
                  refine lv_aload_n hx hb dX6_weigh_104 rfl (lv_at hl 2 rfl) ?_
                  refine va_get (D := D) (ci := 5) (v := .ref start6a) (C := RX6) (T := TX6) (N := 25) hx hb hts hinX6 hown hK.1 hP 0 rfl rfl 16 (by decide) hw5 (fun _ h9 => h9) rfl dX6_weigh_105 ?_
                  refine lv_iload_n hx hb dX6_weigh_108 rfl (lv_at hl 4 rfl) ?_
                  refine lv_iload hx hb dX6_weigh_109 (lv_at hl 6 rfl) ?_
                  obtain ⟨hi_94, h⟩ := sI_s h
                  refine va_iast hx hb hK.1 hP hD hS 9 0 rfl rfl hi_94 dX6_weigh_111 (fun H locs hP hD hS => ?_)
                  obtain ⟨start6_95, estart6_95⟩ : ∃ z, z = upd start6 (Int32.toNatClampNeg i2) i4 := ⟨_, rfl⟩
                  have h := h start6_95 estart6_95
                  rw [← estart6_95] at hP hD
                  have hP : va_P D vwK (w6 cI cJ h6 labels6a guesses6a comes6a sizes6a words6a told6a behind6a shares6a start6a move6a show6a signs6a many6a bestPath6a nextStart6a nextMove6a nextShow6a thrown6_1 rows6 labels6 guesses6 comes6 sizes6 words6 up6 down6 weightAbove6 weightBelow6 told6 length6 behind6 shares6 over6 start6_95 move6 show6 signs6 many6 bestPath6 nextStart6 nextMove6 nextShow6) H := hP
                  have hD : va_D A (w6 cI cJ h6 labels6a guesses6a comes6a sizes6a words6a told6a behind6a shares6a start6a move6a show6a signs6a many6a bestPath6a nextStart6a nextMove6a nextShow6a thrown6_1 rows6 labels6 guesses6 comes6 sizes6 words6 up6 down6 weightAbove6 weightBelow6 told6 length6 behind6 shares6 over6 start6_95 move6 show6 signs6 many6 bestPath6 nextStart6 nextMove6 nextShow6) := hD
                  refine lv_goto (tgt := 141) hx hb dX6_weigh_112 (by decide) ?_
                  refine lv_iload hx hb dX6_weigh_141 (lv_at hl 0 rfl) ?_
                  cases h
                  exact hret _ _ _ _ hP hD hS dX6_weigh_143
          · have h := it_p c_56 h
            refine lv_bipush (v := (-2)) hx hb dX6_weigh_47 (by decide) ?_
            cases h
            exact hret _ _ _ _ hP hD hS dX6_weigh_49
def f_X6_sign (i1 : Int32) (i2 : Int32) (thrown6 : Int32) (signs6 : Nat → Int32) (many6 : Nat → Int32) : Option (Int32 × Int32 × (Nat → Int32) × (Nat → Int32)) :=
  nm (α := Int32) (0) fun thrown6_1 =>
  Option.bind (f_X6_within i1 0 3) fun r_2 =>
  if r_2 = 0 then
    some ((-2), thrown6_1, signs6, many6)
  else
    Option.bind (f_X6_within i2 0 3) fun r_5 =>
    if r_5 = 0 then
      some ((-2), thrown6_1, signs6, many6)
    else
      gA 4 many6 i1 fun v_9 =>
      if v_9 = 5 then
        some ((-3), thrown6_1, signs6, many6)
      else
        gA 4 many6 i1 fun v_12 =>
        sI 20 signs6 ((5 * i1) + v_12) i2 fun signs6_14 =>
        gA 4 many6 i1 fun v_16 =>
        sI 4 many6 i1 (v_16 + 1) fun many6_18 =>
        gA 4 many6_18 i1 fun v_20 =>
        some (v_20, thrown6_1, signs6_14, many6_18)
set_option maxHeartbeats 4000000 in
set_option maxRecDepth 100000 in
theorem c_X6_sign (l : Launch) (D : va_G) (cI cJ : ClassId) (h6 labels6a guesses6a comes6a sizes6a words6a told6a behind6a shares6a start6a move6a show6a signs6a many6a bestPath6a nextStart6a nextMove6a nextShow6a : Nat) (thrown6 : Int32) (rows6 : Int32) (labels6 : Nat → Int32) (guesses6 : Nat → Int32) (comes6 : Nat → Int32) (sizes6 : Nat → Int32) (words6 : Nat → Int32) (up6 : Int32) (down6 : Int32) (weightAbove6 : Int64) (weightBelow6 : Int64) (told6 : Nat → Int32) (length6 : Int32) (behind6 : Nat → Int32) (shares6 : Nat → Int64) (over6 : Int64) (start6 : Nat → Int32) (move6 : Nat → Int32) (show6 : Nat → Int32) (signs6 : Nat → Int32) (many6 : Nat → Int32) (bestPath6 : Nat → Int32) (nextStart6 : Nat → Int32) (nextMove6 : Nat → Int32) (nextShow6 : Nat → Int32) (i1 : Int32) (i2 : Int32) (ret9 : Int32) (thrown6z : Int32) (signs6z : Nat → Int32) (many6z : Nat → Int32) (h : f_X6_sign i1 i2 thrown6 signs6 many6 = some (ret9, thrown6z, signs6z, many6z)) : CI l D cI cJ yX6_sign wsX6_sign 1 22 [.ref h6, .int i1, .int i2] (w6 cI cJ h6 labels6a guesses6a comes6a sizes6a words6a told6a behind6a shares6a start6a move6a show6a signs6a many6a bestPath6a nextStart6a nextMove6a nextShow6a thrown6 rows6 labels6 guesses6 comes6 sizes6 words6 up6 down6 weightAbove6 weightBelow6 told6 length6 behind6 shares6 over6 start6 move6 show6 signs6 many6 bestPath6 nextStart6 nextMove6 nextShow6) (w6 cI cJ h6 labels6a guesses6a comes6a sizes6a words6a told6a behind6a shares6a start6a move6a show6a signs6a many6a bestPath6a nextStart6a nextMove6a nextShow6a thrown6z rows6 labels6 guesses6 comes6 sizes6 words6 up6 down6 weightAbove6 weightBelow6 told6 length6 behind6 shares6 over6 start6 move6 show6 signs6z many6z bestPath6 nextStart6 nextMove6 nextShow6) ret9 := by
  refine entI (cc := cX6_sign) (maxL := 3) (by decide) rfl (Nat.le_of_ble_eq_true rfl) ?_
  intro p e s m args below meth c ls A Q X hret
  obtain ⟨hx, hb, hml, hts, hown, hK, hA, hP, hD, hS, hl, hnm⟩ := X
  have hown : s.vm.findClass RX6 = some m.cls := hown
  have hl : lv_has ls 3 [(0, .ref h6), (1, .int i1), (2, .int i2)] := hl
  have hw1 : (Cond.fieldLink RX6 69 "CountLearnersModel" "thrown" "I").before args s = true := hts _ (by decide +kernel)
  have hinX6 : ∀ w ∈ wsX60, w ∈ wsX6_sign := by decide +kernel
  have hw3 : (Cond.fieldLink RX6 54 "CountLearnersModel" "many" "[I").before args s = true := hts _ (by decide +kernel)
  have hw4 : (Cond.fieldLink RX6 51 "CountLearnersModel" "signs" "[I").before args s = true := hts _ (by decide +kernel)
  unfold f_X6_sign at h
  refine lv_aload_n hx hb dX6_sign_0 rfl (lv_at hl 0 rfl) ?_
  refine lv_iconst (v := 0) hx hb dX6_sign_1 (by decide) ?_
  refine lv_topi (fun thrown6_1 ethrown6_1 => ?_)
  have h := nm_s h thrown6_1 ethrown6_1
  refine va_put (D := D) (ci := 5) (v := .int thrown6_1) (ty := .int) (C := RX6) (T := TX6) (N := 25) hx hb hts hinX6 tyX6 tyX6_ok nmX6 hown hK.1 hP hD hS 0 rfl rfl 0 (by decide) hw1 (fun _ h9 => h9) rfl (by decide +kernel) rfl rfl (Nat.le_of_ble_eq_true rfl) dX6_sign_2 (fun H locs hP hD hS => ?_)
  have hP : va_P D vwK (w6 cI cJ h6 labels6a guesses6a comes6a sizes6a words6a told6a behind6a shares6a start6a move6a show6a signs6a many6a bestPath6a nextStart6a nextMove6a nextShow6a thrown6_1 rows6 labels6 guesses6 comes6 sizes6 words6 up6 down6 weightAbove6 weightBelow6 told6 length6 behind6 shares6 over6 start6 move6 show6 signs6 many6 bestPath6 nextStart6 nextMove6 nextShow6) H := hP
  have hD : va_D A (w6 cI cJ h6 labels6a guesses6a comes6a sizes6a words6a told6a behind6a shares6a start6a move6a show6a signs6a many6a bestPath6a nextStart6a nextMove6a nextShow6a thrown6_1 rows6 labels6 guesses6 comes6 sizes6 words6 up6 down6 weightAbove6 weightBelow6 told6 length6 behind6 shares6 over6 start6 move6 show6 signs6 many6 bestPath6 nextStart6 nextMove6 nextShow6) := hD
  refine lv_iload_n hx hb dX6_sign_5 rfl (lv_at hl 1 rfl) ?_
  refine lv_iconst (v := 0) hx hb dX6_sign_6 (by decide) ?_
  refine lv_iconst (v := 3) hx hb dX6_sign_7 (by decide) ?_
  obtain ⟨r_2, hc_3, h⟩ := bd_s h
  refine callPi (As := [.int i1, .int 0, .int 3]) (rest := []) ⟨hx, hb, hml, hown, hts⟩ (c_X6_within l D cI cJ i1 0 3 r_2 hc_3) (va_cwS 3 hts gX6_sign_X6_within rfl rfl rfl (by decide +kernel) ⟨Nat.le_of_ble_eq_true rfl, Nat.le_of_ble_eq_true rfl⟩) hK hP hD hS hA rfl hl.1 rfl (Nat.le_of_ble_eq_true rfl) dX6_sign_8 ⟨Nat.zero_le _, Nat.zero_le _⟩ (fun H locs hP hD hS => ?_)
  refine lv_if_eq (tgt := 23) hx hb dX6_sign_11 (by decide) (fun c_4 => ?_) (fun c_4 => ?_)
  · have h := it_p c_4 h
    refine lv_bipush (v := (-2)) hx hb dX6_sign_23 (by decide) ?_
    cases h
    exact hret _ _ _ _ hP hD hS dX6_sign_25
  · have h := it_n c_4 h
    refine lv_iload_n hx hb dX6_sign_14 rfl (lv_at hl 2 rfl) ?_
    refine lv_iconst (v := 0) hx hb dX6_sign_15 (by decide) ?_
    refine lv_iconst (v := 3) hx hb dX6_sign_16 (by decide) ?_
    obtain ⟨r_5, hc_6, h⟩ := bd_s h
    refine callPi (As := [.int i2, .int 0, .int 3]) (rest := []) ⟨hx, hb, hml, hown, hts⟩ (c_X6_within l D cI cJ i2 0 3 r_5 hc_6) (va_cwS 3 hts gX6_sign_X6_within rfl rfl rfl (by decide +kernel) ⟨Nat.le_of_ble_eq_true rfl, Nat.le_of_ble_eq_true rfl⟩) hK hP hD hS hA rfl hl.1 rfl (Nat.le_of_ble_eq_true rfl) dX6_sign_17 ⟨Nat.zero_le _, Nat.zero_le _⟩ (fun H locs hP hD hS => ?_)
    refine lv_if_ne (tgt := 26) hx hb dX6_sign_20 (by decide) (fun c_7 => ?_) (fun c_7 => ?_)
    · have h := it_n c_7 h
      refine lv_aload_n hx hb dX6_sign_26 rfl (lv_at hl 0 rfl) ?_
      refine va_get (D := D) (ci := 5) (v := .ref many6a) (C := RX6) (T := TX6) (N := 25) hx hb hts hinX6 hown hK.1 hP 0 rfl rfl 20 (by decide) hw3 (fun _ h9 => h9) rfl dX6_sign_27 ?_
      refine lv_iload_n hx hb dX6_sign_30 rfl (lv_at hl 1 rfl) ?_
      obtain ⟨hi_8, h⟩ := gA_s h
      refine va_iald hx hb hK.1 hP 13 0 rfl rfl hi_8 dX6_sign_31 ?_
      refine lv_topi (fun v_9 ev_9 => ?_)
      have h := h v_9 ev_9
      refine lv_iconst (v := 5) hx hb dX6_sign_32 (by decide) ?_
      refine lv_icmp_ne (tgt := 39) hx hb dX6_sign_33 (by decide) (fun c_10 => ?_) (fun c_10 => ?_)
      · have h := it_n c_10 h
        refine lv_aload_n hx hb dX6_sign_39 rfl (lv_at hl 0 rfl) ?_
        refine va_get (D := D) (ci := 5) (v := .ref signs6a) (C := RX6) (T := TX6) (N := 25) hx hb hts hinX6 hown hK.1 hP 0 rfl rfl 19 (by decide) hw4 (fun _ h9 => h9) rfl dX6_sign_40 ?_
        refine lv_iconst (v := 5) hx hb dX6_sign_43 (by decide) ?_
        refine lv_iload_n hx hb dX6_sign_44 rfl (lv_at hl 1 rfl) ?_
        refine lv_imul hx hb dX6_sign_45 ?_
        refine lv_aload_n hx hb dX6_sign_46 rfl (lv_at hl 0 rfl) ?_
        refine va_get (D := D) (ci := 5) (v := .ref many6a) (C := RX6) (T := TX6) (N := 25) hx hb hts hinX6 hown hK.1 hP 0 rfl rfl 20 (by decide) hw3 (fun _ h9 => h9) rfl dX6_sign_47 ?_
        refine lv_iload_n hx hb dX6_sign_50 rfl (lv_at hl 1 rfl) ?_
        obtain ⟨hi_11, h⟩ := gA_s h
        refine va_iald hx hb hK.1 hP 13 0 rfl rfl hi_11 dX6_sign_51 ?_
        refine lv_topi (fun v_12 ev_12 => ?_)
        have h := h v_12 ev_12
        refine lv_iadd hx hb dX6_sign_52 ?_
        refine lv_iload_n hx hb dX6_sign_53 rfl (lv_at hl 2 rfl) ?_
        obtain ⟨hi_13, h⟩ := sI_s h
        refine va_iast hx hb hK.1 hP hD hS 12 0 rfl rfl hi_13 dX6_sign_54 (fun H locs hP hD hS => ?_)
        obtain ⟨signs6_14, esigns6_14⟩ : ∃ z, z = upd signs6 (Int32.toNatClampNeg ((5 * i1) + v_12)) i2 := ⟨_, rfl⟩
        have h := h signs6_14 esigns6_14
        rw [← esigns6_14] at hP hD
        have hP : va_P D vwK (w6 cI cJ h6 labels6a guesses6a comes6a sizes6a words6a told6a behind6a shares6a start6a move6a show6a signs6a many6a bestPath6a nextStart6a nextMove6a nextShow6a thrown6_1 rows6 labels6 guesses6 comes6 sizes6 words6 up6 down6 weightAbove6 weightBelow6 told6 length6 behind6 shares6 over6 start6 move6 show6 signs6_14 many6 bestPath6 nextStart6 nextMove6 nextShow6) H := hP
        have hD : va_D A (w6 cI cJ h6 labels6a guesses6a comes6a sizes6a words6a told6a behind6a shares6a start6a move6a show6a signs6a many6a bestPath6a nextStart6a nextMove6a nextShow6a thrown6_1 rows6 labels6 guesses6 comes6 sizes6 words6 up6 down6 weightAbove6 weightBelow6 told6 length6 behind6 shares6 over6 start6 move6 show6 signs6_14 many6 bestPath6 nextStart6 nextMove6 nextShow6) := hD
        refine lv_aload_n hx hb dX6_sign_55 rfl (lv_at hl 0 rfl) ?_
        refine va_get (D := D) (ci := 5) (v := .ref many6a) (C := RX6) (T := TX6) (N := 25) hx hb hts hinX6 hown hK.1 hP 0 rfl rfl 20 (by decide) hw3 (fun _ h9 => h9) rfl dX6_sign_56 ?_
        refine lv_iload_n hx hb dX6_sign_59 rfl (lv_at hl 1 rfl) ?_
        refine lv_dup2_11 hx hb dX6_sign_60 rfl rfl ?_
        obtain ⟨hi_15, h⟩ := gA_s h
        refine va_iald hx hb hK.1 hP 13 0 rfl rfl hi_15 dX6_sign_61 ?_
        refine lv_topi (fun v_16 ev_16 => ?_)
        have h := h v_16 ev_16
        refine lv_iconst (v := 1) hx hb dX6_sign_62 (by decide) ?_
        refine lv_iadd hx hb dX6_sign_63 ?_
        obtain ⟨hi_17, h⟩ := sI_s h
        refine va_iast hx hb hK.1 hP hD hS 13 0 rfl rfl hi_17 dX6_sign_64 (fun H locs hP hD hS => ?_)
        obtain ⟨many6_18, emany6_18⟩ : ∃ z, z = upd many6 (Int32.toNatClampNeg i1) (v_16 + 1) := ⟨_, rfl⟩
        have h := h many6_18 emany6_18
        rw [← emany6_18] at hP hD
        have hP : va_P D vwK (w6 cI cJ h6 labels6a guesses6a comes6a sizes6a words6a told6a behind6a shares6a start6a move6a show6a signs6a many6a bestPath6a nextStart6a nextMove6a nextShow6a thrown6_1 rows6 labels6 guesses6 comes6 sizes6 words6 up6 down6 weightAbove6 weightBelow6 told6 length6 behind6 shares6 over6 start6 move6 show6 signs6_14 many6_18 bestPath6 nextStart6 nextMove6 nextShow6) H := hP
        have hD : va_D A (w6 cI cJ h6 labels6a guesses6a comes6a sizes6a words6a told6a behind6a shares6a start6a move6a show6a signs6a many6a bestPath6a nextStart6a nextMove6a nextShow6a thrown6_1 rows6 labels6 guesses6 comes6 sizes6 words6 up6 down6 weightAbove6 weightBelow6 told6 length6 behind6 shares6 over6 start6 move6 show6 signs6_14 many6_18 bestPath6 nextStart6 nextMove6 nextShow6) := hD
        refine lv_aload_n hx hb dX6_sign_65 rfl (lv_at hl 0 rfl) ?_
        refine va_get (D := D) (ci := 5) (v := .ref many6a) (C := RX6) (T := TX6) (N := 25) hx hb hts hinX6 hown hK.1 hP 0 rfl rfl 20 (by decide) hw3 (fun _ h9 => h9) rfl dX6_sign_66 ?_
        refine lv_iload_n hx hb dX6_sign_69 rfl (lv_at hl 1 rfl) ?_
        obtain ⟨hi_19, h⟩ := gA_s h
        refine va_iald hx hb hK.1 hP 13 0 rfl rfl hi_19 dX6_sign_70 ?_
        refine lv_topi (fun v_20 ev_20 => ?_)
        have h := h v_20 ev_20
        cases h
        exact hret _ _ _ _ hP hD hS dX6_sign_71
      · have h := it_p c_10 h
        refine lv_bipush (v := (-3)) hx hb dX6_sign_36 (by decide) ?_
        cases h
        exact hret _ _ _ _ hP hD hS dX6_sign_38
    · have h := it_p c_7 h
      refine lv_bipush (v := (-2)) hx hb dX6_sign_23 (by decide) ?_
      cases h
      exact hret _ _ _ _ hP hD hS dX6_sign_25
def f_X6_stateOf (i1 : Int32) (i2 : Int32) (i3 : Int32) (many6 : Nat → Int32) : Option (Int32) :=
  gA 4 many6 i2 fun v_2 =>
  some ((i1 >>> ((2 * ((v_2 - 1) - i3)) &&& 31)) &&& 3)
set_option maxHeartbeats 4000000 in
set_option maxRecDepth 100000 in
theorem c_X6_stateOf (l : Launch) (D : va_G) (cI cJ : ClassId) (h6 labels6a guesses6a comes6a sizes6a words6a told6a behind6a shares6a start6a move6a show6a signs6a many6a bestPath6a nextStart6a nextMove6a nextShow6a : Nat) (thrown6 : Int32) (rows6 : Int32) (labels6 : Nat → Int32) (guesses6 : Nat → Int32) (comes6 : Nat → Int32) (sizes6 : Nat → Int32) (words6 : Nat → Int32) (up6 : Int32) (down6 : Int32) (weightAbove6 : Int64) (weightBelow6 : Int64) (told6 : Nat → Int32) (length6 : Int32) (behind6 : Nat → Int32) (shares6 : Nat → Int64) (over6 : Int64) (start6 : Nat → Int32) (move6 : Nat → Int32) (show6 : Nat → Int32) (signs6 : Nat → Int32) (many6 : Nat → Int32) (bestPath6 : Nat → Int32) (nextStart6 : Nat → Int32) (nextMove6 : Nat → Int32) (nextShow6 : Nat → Int32) (i1 : Int32) (i2 : Int32) (i3 : Int32) (ret9 : Int32) (h : f_X6_stateOf i1 i2 i3 many6 = some ret9) : CI l D cI cJ yX6_stateOf wsX6_stateOf 0 0 [.ref h6, .int i1, .int i2, .int i3] (w6 cI cJ h6 labels6a guesses6a comes6a sizes6a words6a told6a behind6a shares6a start6a move6a show6a signs6a many6a bestPath6a nextStart6a nextMove6a nextShow6a thrown6 rows6 labels6 guesses6 comes6 sizes6 words6 up6 down6 weightAbove6 weightBelow6 told6 length6 behind6 shares6 over6 start6 move6 show6 signs6 many6 bestPath6 nextStart6 nextMove6 nextShow6) (w6 cI cJ h6 labels6a guesses6a comes6a sizes6a words6a told6a behind6a shares6a start6a move6a show6a signs6a many6a bestPath6a nextStart6a nextMove6a nextShow6a thrown6 rows6 labels6 guesses6 comes6 sizes6 words6 up6 down6 weightAbove6 weightBelow6 told6 length6 behind6 shares6 over6 start6 move6 show6 signs6 many6 bestPath6 nextStart6 nextMove6 nextShow6) ret9 := by
  refine entI (cc := cX6_stateOf) (maxL := 4) (by decide) rfl (Nat.le_of_ble_eq_true rfl) ?_
  intro p e s m args below meth c ls A Q X hret
  obtain ⟨hx, hb, hml, hts, hown, hK, hA, hP, hD, hS, hl, hnm⟩ := X
  have hown : s.vm.findClass RX6 = some m.cls := hown
  have hl : lv_has ls 4 [(0, .ref h6), (1, .int i1), (2, .int i2), (3, .int i3)] := hl
  have hw1 : (Cond.fieldLink RX6 54 "CountLearnersModel" "many" "[I").before args s = true := hts _ (by decide +kernel)
  have hinX6 : ∀ w ∈ wsX60, w ∈ wsX6_stateOf := by decide +kernel
  unfold f_X6_stateOf at h
  refine lv_iload_n hx hb dX6_stateOf_0 rfl (lv_at hl 1 rfl) ?_
  refine lv_iconst (v := 2) hx hb dX6_stateOf_1 (by decide) ?_
  refine lv_aload_n hx hb dX6_stateOf_2 rfl (lv_at hl 0 rfl) ?_
  refine va_get (D := D) (ci := 5) (v := .ref many6a) (C := RX6) (T := TX6) (N := 25) hx hb hts hinX6 hown hK.1 hP 0 rfl rfl 20 (by decide) hw1 (fun _ h9 => h9) rfl dX6_stateOf_3 ?_
  refine lv_iload_n hx hb dX6_stateOf_6 rfl (lv_at hl 2 rfl) ?_
  obtain ⟨hi_1, h⟩ := gA_s h
  refine va_iald hx hb hK.1 hP 13 0 rfl rfl hi_1 dX6_stateOf_7 ?_
  refine lv_topi (fun v_2 ev_2 => ?_)
  have h := h v_2 ev_2
  refine lv_iconst (v := 1) hx hb dX6_stateOf_8 (by decide) ?_
  refine lv_isub hx hb dX6_stateOf_9 ?_
  refine lv_iload_n hx hb dX6_stateOf_10 rfl (lv_at hl 3 rfl) ?_
  refine lv_isub hx hb dX6_stateOf_11 ?_
  refine lv_imul hx hb dX6_stateOf_12 ?_
  refine lv_ishr hx hb dX6_stateOf_13 ?_
  refine lv_iconst (v := 3) hx hb dX6_stateOf_14 (by decide) ?_
  refine lv_iand hx hb dX6_stateOf_15 ?_
  cases h
  exact hret _ _ _ _ hP hD hS dX6_stateOf_16
def f_X6_weighPath_L5 (i1 : Int32) (i2 : Int32) (start6 : Nat → Int32) (move6 : Nat → Int32) (show6 : Nat → Int32) (signs6 : Nat → Int32) (many6 : Nat → Int32) : Nat → Int32 → Int64 → Option (Int32 × Int64)
  | 0, _, _ => none
  | n + 1, y5_3, k3_4 =>
  gA 4 many6 i2 fun v_8 =>
  if v_8 ≤ y5_3 then
    some (y5_3, k3_4)
  else
    Option.bind (f_X6_stateOf i1 i2 y5_3 many6) fun r_10 =>
    nm (α := Int32) (r_10) fun x6_12 =>
    if y5_3 = 0 then
      gA 4 start6 x6_12 fun v_26 =>
      nm (α := Int64) ((k3_4 * (Int32.toInt64 v_26))) fun j3_27 =>
      gA 20 signs6 ((5 * i2) + y5_3) fun v_29 =>
      gA 16 show6 ((4 * x6_12) + v_29) fun v_31 =>
      nm (α := Int64) ((j3_27 * (Int32.toInt64 v_31))) fun j3_32 =>
      nm (α := Int32) (y5_3 + 1) fun x5_33 =>
      f_X6_weighPath_L5 i1 i2 start6 move6 show6 signs6 many6 n x5_33 j3_32
    else
      Option.bind (f_X6_stateOf i1 i2 (y5_3 - 1) many6) fun r_14 =>
      gA 16 move6 ((4 * r_14) + x6_12) fun v_17 =>
      nm (α := Int64) ((k3_4 * (Int32.toInt64 v_17))) fun j3_18 =>
      gA 20 signs6 ((5 * i2) + y5_3) fun v_20 =>
      gA 16 show6 ((4 * x6_12) + v_20) fun v_22 =>
      nm (α := Int64) ((j3_18 * (Int32.toInt64 v_22))) fun j3_23 =>
      nm (α := Int32) (y5_3 + 1) fun x5_24 =>
      f_X6_weighPath_L5 i1 i2 start6 move6 show6 signs6 many6 n x5_24 j3_23
def f_X6_weighPath (i1 : Int32) (i2 : Int32) (start6 : Nat → Int32) (move6 : Nat → Int32) (show6 : Nat → Int32) (signs6 : Nat → Int32) (many6 : Nat → Int32) : Option (Int64) :=
  nm (α := Int64) (1) fun j3_1 =>
  nm (α := Int32) (0) fun x5_2 =>
  Option.bind (f_X6_weighPath_L5 i1 i2 start6 move6 show6 signs6 many6 FU x5_2 j3_1) fun (z5_34, z3_35) =>
  some z3_35
set_option maxHeartbeats 4000000 in
set_option maxRecDepth 100000 in
theorem c_X6_weighPath (l : Launch) (D : va_G) (cI cJ : ClassId) (h6 labels6a guesses6a comes6a sizes6a words6a told6a behind6a shares6a start6a move6a show6a signs6a many6a bestPath6a nextStart6a nextMove6a nextShow6a : Nat) (thrown6 : Int32) (rows6 : Int32) (labels6 : Nat → Int32) (guesses6 : Nat → Int32) (comes6 : Nat → Int32) (sizes6 : Nat → Int32) (words6 : Nat → Int32) (up6 : Int32) (down6 : Int32) (weightAbove6 : Int64) (weightBelow6 : Int64) (told6 : Nat → Int32) (length6 : Int32) (behind6 : Nat → Int32) (shares6 : Nat → Int64) (over6 : Int64) (start6 : Nat → Int32) (move6 : Nat → Int32) (show6 : Nat → Int32) (signs6 : Nat → Int32) (many6 : Nat → Int32) (bestPath6 : Nat → Int32) (nextStart6 : Nat → Int32) (nextMove6 : Nat → Int32) (nextShow6 : Nat → Int32) (i1 : Int32) (i2 : Int32) (ret9 : Int64) (h : f_X6_weighPath i1 i2 start6 move6 show6 signs6 many6 = some ret9) : CL l D cI cJ yX6_weighPath wsX6_weighPath 1 23 [.ref h6, .int i1, .int i2] (w6 cI cJ h6 labels6a guesses6a comes6a sizes6a words6a told6a behind6a shares6a start6a move6a show6a signs6a many6a bestPath6a nextStart6a nextMove6a nextShow6a thrown6 rows6 labels6 guesses6 comes6 sizes6 words6 up6 down6 weightAbove6 weightBelow6 told6 length6 behind6 shares6 over6 start6 move6 show6 signs6 many6 bestPath6 nextStart6 nextMove6 nextShow6) (w6 cI cJ h6 labels6a guesses6a comes6a sizes6a words6a told6a behind6a shares6a start6a move6a show6a signs6a many6a bestPath6a nextStart6a nextMove6a nextShow6a thrown6 rows6 labels6 guesses6 comes6 sizes6 words6 up6 down6 weightAbove6 weightBelow6 told6 length6 behind6 shares6 over6 start6 move6 show6 signs6 many6 bestPath6 nextStart6 nextMove6 nextShow6) ret9 := by
  refine entL (cc := cX6_weighPath) (maxL := 7) (by decide) rfl (Nat.le_of_ble_eq_true rfl) ?_
  intro p e s m args below meth c ls A Q X hret
  obtain ⟨hx, hb, hml, hts, hown, hK, hA, hP, hD, hS, hl, hnm⟩ := X
  have hown : s.vm.findClass RX6 = some m.cls := hown
  have hl : lv_has ls 7 [(0, .ref h6), (1, .int i1), (2, .int i2)] := hl
  have hw1 : (Cond.fieldLink RX6 54 "CountLearnersModel" "many" "[I").before args s = true := hts _ (by decide +kernel)
  have hinX6 : ∀ w ∈ wsX60, w ∈ wsX6_weighPath := by decide +kernel
  have hw3 : (Cond.fieldLink RX6 45 "CountLearnersModel" "move" "[I").before args s = true := hts _ (by decide +kernel)
  have hw4 : (Cond.fieldLink RX6 48 "CountLearnersModel" "show" "[I").before args s = true := hts _ (by decide +kernel)
  have hw5 : (Cond.fieldLink RX6 51 "CountLearnersModel" "signs" "[I").before args s = true := hts _ (by decide +kernel)
  have hw6 : (Cond.fieldLink RX6 42 "CountLearnersModel" "start" "[I").before args s = true := hts _ (by decide +kernel)
  unfold f_X6_weighPath at h
  refine lv_lconst (v := 1) hx hb dX6_weighPath_0 (by decide) ?_
  refine lv_topl (fun j3_1 ej3_1 => ?_)
  have h := nm_s h j3_1 ej3_1
  refine lv_lstore_n (lv' := [(3, .long j3_1), (0, .ref h6), (1, .int i1), (2, .int i2)]) hx hb dX6_weighPath_1 rfl hl (by decide) rfl (fun ls hl => ?_)
  refine lv_iconst (v := 0) hx hb dX6_weighPath_2 (by decide) ?_
  refine lv_topi (fun x5_2 ex5_2 => ?_)
  have h := nm_s h x5_2 ex5_2
  refine lv_istore (lv' := [(5, .int x5_2), (3, .long j3_1), (0, .ref h6), (1, .int i1), (2, .int i2)]) hx hb dX6_weighPath_3 hl (by decide) rfl (fun ls hl => ?_)
  have L5 : ∀ (n : Nat) (y5_3 : Int32) (k3_4 : Int64) (z5_5 : Int32) (z3_6 : Int64), f_X6_weighPath_L5 i1 i2 start6 move6 show6 signs6 many6 n y5_3 k3_4 = some (z5_5, z3_6) → ∀ (H : Heap) (locs : List Loc) (ls : Array Slot), va_P D vwK (w6 cI cJ h6 labels6a guesses6a comes6a sizes6a words6a told6a behind6a shares6a start6a move6a show6a signs6a many6a bestPath6a nextStart6a nextMove6a nextShow6a thrown6 rows6 labels6 guesses6 comes6 sizes6 words6 up6 down6 weightAbove6 weightBelow6 told6 length6 behind6 shares6 over6 start6 move6 show6 signs6 many6 bestPath6 nextStart6 nextMove6 nextShow6) H → va_D A (w6 cI cJ h6 labels6a guesses6a comes6a sizes6a words6a told6a behind6a shares6a start6a move6a show6a signs6a many6a bestPath6a nextStart6a nextMove6a nextShow6a thrown6 rows6 labels6 guesses6 comes6 sizes6 words6 up6 down6 weightAbove6 weightBelow6 told6 length6 behind6 shares6 over6 start6 move6 show6 signs6 many6 bestPath6 nextStart6 nextMove6 nextShow6) → va_S A s.heap H locs → lv_has ls 7 [(5, .int y5_3), (3, .long k3_4), (0, .ref h6), (1, .int i1), (2, .int i2)] → (∀ (H : Heap) (locs : List Loc) (ls : Array Slot), va_P D vwK (w6 cI cJ h6 labels6a guesses6a comes6a sizes6a words6a told6a behind6a shares6a start6a move6a show6a signs6a many6a bestPath6a nextStart6a nextMove6a nextShow6a thrown6 rows6 labels6 guesses6 comes6 sizes6 words6 up6 down6 weightAbove6 weightBelow6 told6 length6 behind6 shares6 over6 start6 move6 show6 signs6 many6 bestPath6 nextStart6 nextMove6 nextShow6) H → va_D A (w6 cI cJ h6 labels6a guesses6a comes6a sizes6a words6a told6a behind6a shares6a start6a move6a show6a signs6a many6a bestPath6a nextStart6a nextMove6a nextShow6a thrown6 rows6 labels6 guesses6 comes6 sizes6 words6 up6 down6 weightAbove6 weightBelow6 told6 length6 behind6 shares6 over6 start6 move6 show6 signs6 many6 bestPath6 nextStart6 nextMove6 nextShow6) → va_S A s.heap H locs → lv_has ls 7 [(3, .long z3_6)] → W p l e (rmOf 1 23) s m args below meth c H locs 0 0 Q (F0 m 97 ls [])) → W p l e (rmOf 1 23) s m args below meth c H locs 0 0 Q (F0 m 5 ls []) := by
    intro n
    induction n with
    | zero => intro y5_3 k3_4 z5_5 z3_6 h; rw [f_X6_weighPath_L5.eq_1] at h; cases h
    | succ n ih =>
      intro y5_3 k3_4 z5_5 z3_6 h H locs ls hP hD hS hl K
      rw [f_X6_weighPath_L5.eq_2] at h
      refine lv_iload hx hb dX6_weighPath_5 (lv_at hl 0 rfl) ?_
      refine lv_aload_n hx hb dX6_weighPath_7 rfl (lv_at hl 2 rfl) ?_
      refine va_get (D := D) (ci := 5) (v := .ref many6a) (C := RX6) (T := TX6) (N := 25) hx hb hts hinX6 hown hK.1 hP 0 rfl rfl 20 (by decide) hw1 (fun _ h9 => h9) rfl dX6_weighPath_8 ?_
      refine lv_iload_n hx hb dX6_weighPath_11 rfl (lv_at hl 4 rfl) ?_
      obtain ⟨hi_7, h⟩ := gA_s h
      refine va_iald hx hb hK.1 hP 13 0 rfl rfl hi_7 dX6_weighPath_12 ?_
      refine lv_topi (fun v_8 ev_8 => ?_)
      have h := h v_8 ev_8
      refine lv_icmp_ge (tgt := 97) hx hb dX6_weighPath_13 (by decide) (fun c_9 => ?_) (fun c_9 => ?_)
      · have h := it_p c_9 h
        cases h
        exact K _ _ _ hP hD hS (lv_sub hl [1] rfl)
      · have h := it_n c_9 h
        refine lv_aload_n hx hb dX6_weighPath_16 rfl (lv_at hl 2 rfl) ?_
        refine lv_iload_n hx hb dX6_weighPath_17 rfl (lv_at hl 3 rfl) ?_
        refine lv_iload_n hx hb dX6_weighPath_18 rfl (lv_at hl 4 rfl) ?_
        refine lv_iload hx hb dX6_weighPath_19 (lv_at hl 0 rfl) ?_
        obtain ⟨r_10, hc_11, h⟩ := bd_s h
        refine callTi (As := [.int i1, .int i2, .int y5_3]) (rest := []) ⟨hx, hb, hml, hown, hts⟩ (c_X6_stateOf l D cI cJ h6 labels6a guesses6a comes6a sizes6a words6a told6a behind6a shares6a start6a move6a show6a signs6a many6a bestPath6a nextStart6a nextMove6a nextShow6a thrown6 rows6 labels6 guesses6 comes6 sizes6 words6 up6 down6 weightAbove6 weightBelow6 told6 length6 behind6 shares6 over6 start6 move6 show6 signs6 many6 bestPath6 nextStart6 nextMove6 nextShow6 i1 i2 y5_3 r_10 hc_11) (cwV 3 hts gX6_weighPath_X6_stateOf rfl rfl rfl (by decide +kernel) ⟨Nat.le_of_ble_eq_true rfl, Nat.le_of_ble_eq_true rfl⟩) hK hP hD hS hA 0 5 rfl rfl rfl rfl hl.1 rfl (Nat.le_of_ble_eq_true rfl) dX6_weighPath_21 ⟨Nat.zero_le _, Nat.zero_le _⟩ (fun H locs hP hD hS => ?_)
        refine lv_topi (fun x6_12 ex6_12 => ?_)
        have h := nm_s h x6_12 ex6_12
        refine lv_istore (lv' := [(6, .int x6_12), (5, .int y5_3), (3, .long k3_4), (0, .ref h6), (1, .int i1), (2, .int i2)]) hx hb dX6_weighPath_24 hl (by decide) rfl (fun ls hl => ?_)
        refine lv_lload_n hx hb dX6_weighPath_26 rfl (lv_at hl 2 rfl) ?_
        refine lv_iload hx hb dX6_weighPath_27 (lv_at hl 1 rfl) ?_
        refine lv_if_ne (tgt := 43) hx hb dX6_weighPath_29 (by decide) (fun c_13 => ?_) (fun c_13 => ?_)
        · have h := it_n c_13 h
          refine lv_aload_n hx hb dX6_weighPath_43 rfl (lv_at hl 3 rfl) ?_
          refine va_get (D := D) (ci := 5) (v := .ref move6a) (C := RX6) (T := TX6) (N := 25) hx hb hts hinX6 hown hK.1 hP 0 rfl rfl 17 (by decide) hw3 (fun _ h9 => h9) rfl dX6_weighPath_44 ?_
          refine lv_iconst (v := 4) hx hb dX6_weighPath_47 (by decide) ?_
          refine lv_aload_n hx hb dX6_weighPath_48 rfl (lv_at hl 3 rfl) ?_
          refine lv_iload_n hx hb dX6_weighPath_49 rfl (lv_at hl 4 rfl) ?_
          refine lv_iload_n hx hb dX6_weighPath_50 rfl (lv_at hl 5 rfl) ?_
          refine lv_iload hx hb dX6_weighPath_51 (lv_at hl 1 rfl) ?_
          refine lv_iconst (v := 1) hx hb dX6_weighPath_53 (by decide) ?_
          refine lv_isub hx hb dX6_weighPath_54 ?_
          obtain ⟨r_14, hc_15, h⟩ := bd_s h
          refine callTi (As := [.int i1, .int i2, .int (y5_3 - 1)]) (rest := [.int 4, .ref move6a, .long k3_4]) ⟨hx, hb, hml, hown, hts⟩ (c_X6_stateOf l D cI cJ h6 labels6a guesses6a comes6a sizes6a words6a told6a behind6a shares6a start6a move6a show6a signs6a many6a bestPath6a nextStart6a nextMove6a nextShow6a thrown6 rows6 labels6 guesses6 comes6 sizes6 words6 up6 down6 weightAbove6 weightBelow6 told6 length6 behind6 shares6 over6 start6 move6 show6 signs6 many6 bestPath6 nextStart6 nextMove6 nextShow6 i1 i2 (y5_3 - 1) r_14 hc_15) (cwV 3 hts gX6_weighPath_X6_stateOf rfl rfl rfl (by decide +kernel) ⟨Nat.le_of_ble_eq_true rfl, Nat.le_of_ble_eq_true rfl⟩) hK hP hD hS hA 0 5 rfl rfl rfl rfl hl.1 rfl (Nat.le_of_ble_eq_true rfl) dX6_weighPath_55 ⟨Nat.zero_le _, Nat.zero_le _⟩ (fun H locs hP hD hS => ?_)
          refine lv_imul hx hb dX6_weighPath_58 ?_
          refine lv_iload hx hb dX6_weighPath_59 (lv_at hl 0 rfl) ?_
          refine lv_iadd hx hb dX6_weighPath_61 ?_
          obtain ⟨hi_16, h⟩ := gA_s h
          refine va_iald hx hb hK.1 hP 10 0 rfl rfl hi_16 dX6_weighPath_62 ?_
          refine lv_topi (fun v_17 ev_17 => ?_)
          have h := h v_17 ev_17
          refine lv_i2l (v := (Int32.toInt64 v_17)) hx hb dX6_weighPath_63 rfl ?_
          refine lv_lmul hx hb dX6_weighPath_64 ?_
          refine lv_topl (fun j3_18 ej3_18 => ?_)
          have h := nm_s h j3_18 ej3_18
          refine lv_lstore_n (lv' := [(3, .long j3_18), (6, .int x6_12), (5, .int y5_3), (0, .ref h6), (1, .int i1), (2, .int i2)]) hx hb dX6_weighPath_65 rfl hl (by decide) rfl (fun ls hl => ?_)
          refine lv_lload_n hx hb dX6_weighPath_66 rfl (lv_at hl 0 rfl) ?_
          refine lv_aload_n hx hb dX6_weighPath_67 rfl (lv_at hl 3 rfl) ?_
          refine va_get (D := D) (ci := 5) (v := .ref show6a) (C := RX6) (T := TX6) (N := 25) hx hb hts hinX6 hown hK.1 hP 0 rfl rfl 18 (by decide) hw4 (fun _ h9 => h9) rfl dX6_weighPath_68 ?_
          refine lv_iconst (v := 4) hx hb dX6_weighPath_71 (by decide) ?_
          refine lv_iload hx hb dX6_weighPath_72 (lv_at hl 1 rfl) ?_
          refine lv_imul hx hb dX6_weighPath_74 ?_
          refine lv_aload_n hx hb dX6_weighPath_75 rfl (lv_at hl 3 rfl) ?_
          refine va_get (D := D) (ci := 5) (v := .ref signs6a) (C := RX6) (T := TX6) (N := 25) hx hb hts hinX6 hown hK.1 hP 0 rfl rfl 19 (by decide) hw5 (fun _ h9 => h9) rfl dX6_weighPath_76 ?_
          refine lv_iconst (v := 5) hx hb dX6_weighPath_79 (by decide) ?_
          refine lv_iload_n hx hb dX6_weighPath_80 rfl (lv_at hl 5 rfl) ?_
          refine lv_imul hx hb dX6_weighPath_81 ?_
          refine lv_iload hx hb dX6_weighPath_82 (lv_at hl 2 rfl) ?_
          refine lv_iadd hx hb dX6_weighPath_84 ?_
          obtain ⟨hi_19, h⟩ := gA_s h
          refine va_iald hx hb hK.1 hP 12 0 rfl rfl hi_19 dX6_weighPath_85 ?_
          refine lv_topi (fun v_20 ev_20 => ?_)
          have h := h v_20 ev_20
          refine lv_iadd hx hb dX6_weighPath_86 ?_
          obtain ⟨hi_21, h⟩ := gA_s h
          refine va_iald hx hb hK.1 hP 11 0 rfl rfl hi_21 dX6_weighPath_87 ?_
          refine lv_topi (fun v_22 ev_22 => ?_)
          have h := h v_22 ev_22
          refine lv_i2l (v := (Int32.toInt64 v_22)) hx hb dX6_weighPath_88 rfl ?_
          refine lv_lmul hx hb dX6_weighPath_89 ?_
          refine lv_topl (fun j3_23 ej3_23 => ?_)
          have h := nm_s h j3_23 ej3_23
          refine lv_lstore_n (lv' := [(3, .long j3_23), (6, .int x6_12), (5, .int y5_3), (0, .ref h6), (1, .int i1), (2, .int i2)]) hx hb dX6_weighPath_90 rfl hl (by decide) rfl (fun ls hl => ?_)
          obtain ⟨x5_24, ex5_24⟩ : ∃ z : Int32, z = y5_3 + 1 := ⟨_, rfl⟩
          have h := nm_s h x5_24 ex5_24
          refine lv_iinc (v := x5_24) (lv' := [(5, .int x5_24), (3, .long j3_23), (6, .int x6_12), (0, .ref h6), (1, .int i1), (2, .int i2)]) hx hb dX6_weighPath_91 hl (k := 2) rfl (by rw [ex5_24]; rfl) (by decide) rfl (fun ls hl => ?_)
          refine lv_goto (tgt := 5) hx hb dX6_weighPath_94 (by decide) ?_
          exact ih _ _ _ _ h _ _ _ hP hD hS (lv_sub hl [0, 1, 3, 4, 5] rfl) K
        · have h := it_p c_13 h
          refine lv_aload_n hx hb dX6_weighPath_32 rfl (lv_at hl 3 rfl) ?_
          refine va_get (D := D) (ci := 5) (v := .ref start6a) (C := RX6) (T := TX6) (N := 25) hx hb hts hinX6 hown hK.1 hP 0 rfl rfl 16 (by decide) hw6 (fun _ h9 => h9) rfl dX6_weighPath_33 ?_
          refine lv_iload hx hb dX6_weighPath_36 (lv_at hl 0 rfl) ?_
          obtain ⟨hi_25, h⟩ := gA_s h
          refine va_iald hx hb hK.1 hP 9 0 rfl rfl hi_25 dX6_weighPath_38 ?_
          refine lv_topi (fun v_26 ev_26 => ?_)
          have h := h v_26 ev_26
          refine lv_i2l (v := (Int32.toInt64 v_26)) hx hb dX6_weighPath_39 rfl ?_
          refine lv_goto (tgt := 64) hx hb dX6_weighPath_40 (by decide) ?_
          refine lv_lmul hx hb dX6_weighPath_64 ?_
          refine lv_topl (fun j3_27 ej3_27 => ?_)
          have h := nm_s h j3_27 ej3_27
          refine lv_lstore_n (lv' := [(3, .long j3_27), (6, .int x6_12), (5, .int y5_3), (0, .ref h6), (1, .int i1), (2, .int i2)]) hx hb dX6_weighPath_65 rfl hl (by decide) rfl (fun ls hl => ?_)
          refine lv_lload_n hx hb dX6_weighPath_66 rfl (lv_at hl 0 rfl) ?_
          refine lv_aload_n hx hb dX6_weighPath_67 rfl (lv_at hl 3 rfl) ?_
          refine va_get (D := D) (ci := 5) (v := .ref show6a) (C := RX6) (T := TX6) (N := 25) hx hb hts hinX6 hown hK.1 hP 0 rfl rfl 18 (by decide) hw4 (fun _ h9 => h9) rfl dX6_weighPath_68 ?_
          refine lv_iconst (v := 4) hx hb dX6_weighPath_71 (by decide) ?_
          refine lv_iload hx hb dX6_weighPath_72 (lv_at hl 1 rfl) ?_
          refine lv_imul hx hb dX6_weighPath_74 ?_
          refine lv_aload_n hx hb dX6_weighPath_75 rfl (lv_at hl 3 rfl) ?_
          refine va_get (D := D) (ci := 5) (v := .ref signs6a) (C := RX6) (T := TX6) (N := 25) hx hb hts hinX6 hown hK.1 hP 0 rfl rfl 19 (by decide) hw5 (fun _ h9 => h9) rfl dX6_weighPath_76 ?_
          refine lv_iconst (v := 5) hx hb dX6_weighPath_79 (by decide) ?_
          refine lv_iload_n hx hb dX6_weighPath_80 rfl (lv_at hl 5 rfl) ?_
          refine lv_imul hx hb dX6_weighPath_81 ?_
          refine lv_iload hx hb dX6_weighPath_82 (lv_at hl 2 rfl) ?_
          refine lv_iadd hx hb dX6_weighPath_84 ?_
          obtain ⟨hi_28, h⟩ := gA_s h
          refine va_iald hx hb hK.1 hP 12 0 rfl rfl hi_28 dX6_weighPath_85 ?_
          refine lv_topi (fun v_29 ev_29 => ?_)
          have h := h v_29 ev_29
          refine lv_iadd hx hb dX6_weighPath_86 ?_
          obtain ⟨hi_30, h⟩ := gA_s h
          refine va_iald hx hb hK.1 hP 11 0 rfl rfl hi_30 dX6_weighPath_87 ?_
          refine lv_topi (fun v_31 ev_31 => ?_)
          have h := h v_31 ev_31
          refine lv_i2l (v := (Int32.toInt64 v_31)) hx hb dX6_weighPath_88 rfl ?_
          refine lv_lmul hx hb dX6_weighPath_89 ?_
          refine lv_topl (fun j3_32 ej3_32 => ?_)
          have h := nm_s h j3_32 ej3_32
          refine lv_lstore_n (lv' := [(3, .long j3_32), (6, .int x6_12), (5, .int y5_3), (0, .ref h6), (1, .int i1), (2, .int i2)]) hx hb dX6_weighPath_90 rfl hl (by decide) rfl (fun ls hl => ?_)
          obtain ⟨x5_33, ex5_33⟩ : ∃ z : Int32, z = y5_3 + 1 := ⟨_, rfl⟩
          have h := nm_s h x5_33 ex5_33
          refine lv_iinc (v := x5_33) (lv' := [(5, .int x5_33), (3, .long j3_32), (6, .int x6_12), (0, .ref h6), (1, .int i1), (2, .int i2)]) hx hb dX6_weighPath_91 hl (k := 2) rfl (by rw [ex5_33]; rfl) (by decide) rfl (fun ls hl => ?_)
          refine lv_goto (tgt := 5) hx hb dX6_weighPath_94 (by decide) ?_
          exact ih _ _ _ _ h _ _ _ hP hD hS (lv_sub hl [0, 1, 3, 4, 5] rfl) K
  obtain ⟨⟨z5_34, z3_35⟩, hl_36, h⟩ := bd_s h
  refine L5 FU x5_2 j3_1 _ _ hl_36 _ _ _ hP hD hS (lv_sub hl [0, 1, 2, 3, 4] rfl) (fun H locs ls hP hD hS hl => ?_)
  refine lv_lload_n hx hb dX6_weighPath_97 rfl (lv_at hl 0 rfl) ?_
  cases h
  exact hret _ _ _ _ hP hD hS dX6_weighPath_98
def f_X6_paths (i1 : Int32) (many6 : Nat → Int32) : Option (Int32) :=
  gA 4 many6 i1 fun v_2 =>
  if v_2 = 0 then
    some 0
  else
    gA 4 many6 i1 fun v_5 =>
    some (1 <<< ((2 * v_5) &&& 31))
set_option maxHeartbeats 4000000 in
set_option maxRecDepth 100000 in
theorem c_X6_paths (l : Launch) (D : va_G) (cI cJ : ClassId) (h6 labels6a guesses6a comes6a sizes6a words6a told6a behind6a shares6a start6a move6a show6a signs6a many6a bestPath6a nextStart6a nextMove6a nextShow6a : Nat) (thrown6 : Int32) (rows6 : Int32) (labels6 : Nat → Int32) (guesses6 : Nat → Int32) (comes6 : Nat → Int32) (sizes6 : Nat → Int32) (words6 : Nat → Int32) (up6 : Int32) (down6 : Int32) (weightAbove6 : Int64) (weightBelow6 : Int64) (told6 : Nat → Int32) (length6 : Int32) (behind6 : Nat → Int32) (shares6 : Nat → Int64) (over6 : Int64) (start6 : Nat → Int32) (move6 : Nat → Int32) (show6 : Nat → Int32) (signs6 : Nat → Int32) (many6 : Nat → Int32) (bestPath6 : Nat → Int32) (nextStart6 : Nat → Int32) (nextMove6 : Nat → Int32) (nextShow6 : Nat → Int32) (i1 : Int32) (ret9 : Int32) (h : f_X6_paths i1 many6 = some ret9) : CI l D cI cJ yX6_paths wsX6_paths 0 0 [.ref h6, .int i1] (w6 cI cJ h6 labels6a guesses6a comes6a sizes6a words6a told6a behind6a shares6a start6a move6a show6a signs6a many6a bestPath6a nextStart6a nextMove6a nextShow6a thrown6 rows6 labels6 guesses6 comes6 sizes6 words6 up6 down6 weightAbove6 weightBelow6 told6 length6 behind6 shares6 over6 start6 move6 show6 signs6 many6 bestPath6 nextStart6 nextMove6 nextShow6) (w6 cI cJ h6 labels6a guesses6a comes6a sizes6a words6a told6a behind6a shares6a start6a move6a show6a signs6a many6a bestPath6a nextStart6a nextMove6a nextShow6a thrown6 rows6 labels6 guesses6 comes6 sizes6 words6 up6 down6 weightAbove6 weightBelow6 told6 length6 behind6 shares6 over6 start6 move6 show6 signs6 many6 bestPath6 nextStart6 nextMove6 nextShow6) ret9 := by
  refine entI (cc := cX6_paths) (maxL := 2) (by decide) rfl (Nat.le_of_ble_eq_true rfl) ?_
  intro p e s m args below meth c ls A Q X hret
  obtain ⟨hx, hb, hml, hts, hown, hK, hA, hP, hD, hS, hl, hnm⟩ := X
  have hown : s.vm.findClass RX6 = some m.cls := hown
  have hl : lv_has ls 2 [(0, .ref h6), (1, .int i1)] := hl
  have hw1 : (Cond.fieldLink RX6 54 "CountLearnersModel" "many" "[I").before args s = true := hts _ (by decide +kernel)
  have hinX6 : ∀ w ∈ wsX60, w ∈ wsX6_paths := by decide +kernel
  unfold f_X6_paths at h
  refine lv_aload_n hx hb dX6_paths_0 rfl (lv_at hl 0 rfl) ?_
  refine va_get (D := D) (ci := 5) (v := .ref many6a) (C := RX6) (T := TX6) (N := 25) hx hb hts hinX6 hown hK.1 hP 0 rfl rfl 20 (by decide) hw1 (fun _ h9 => h9) rfl dX6_paths_1 ?_
  refine lv_iload_n hx hb dX6_paths_4 rfl (lv_at hl 1 rfl) ?_
  obtain ⟨hi_1, h⟩ := gA_s h
  refine va_iald hx hb hK.1 hP 13 0 rfl rfl hi_1 dX6_paths_5 ?_
  refine lv_topi (fun v_2 ev_2 => ?_)
  have h := h v_2 ev_2
  refine lv_if_ne (tgt := 13) hx hb dX6_paths_6 (by decide) (fun c_3 => ?_) (fun c_3 => ?_)
  · have h := it_n c_3 h
    refine lv_iconst (v := 1) hx hb dX6_paths_13 (by decide) ?_
    refine lv_iconst (v := 2) hx hb dX6_paths_14 (by decide) ?_
    refine lv_aload_n hx hb dX6_paths_15 rfl (lv_at hl 0 rfl) ?_
    refine va_get (D := D) (ci := 5) (v := .ref many6a) (C := RX6) (T := TX6) (N := 25) hx hb hts hinX6 hown hK.1 hP 0 rfl rfl 20 (by decide) hw1 (fun _ h9 => h9) rfl dX6_paths_16 ?_
    refine lv_iload_n hx hb dX6_paths_19 rfl (lv_at hl 1 rfl) ?_
    obtain ⟨hi_4, h⟩ := gA_s h
    refine va_iald hx hb hK.1 hP 13 0 rfl rfl hi_4 dX6_paths_20 ?_
    refine lv_topi (fun v_5 ev_5 => ?_)
    have h := h v_5 ev_5
    refine lv_imul hx hb dX6_paths_21 ?_
    refine lv_ishl hx hb dX6_paths_22 ?_
    cases h
    exact hret _ _ _ _ hP hD hS dX6_paths_23
  · have h := it_p c_3 h
    refine lv_iconst (v := 0) hx hb dX6_paths_9 (by decide) ?_
    refine lv_goto (tgt := 23) hx hb dX6_paths_10 (by decide) ?_
    cases h
    exact hret _ _ _ _ hP hD hS dX6_paths_23
def f_X6_sum_L6 (i1 : Int32) (i2 : Int32) (i3 : Int32) (start6 : Nat → Int32) (move6 : Nat → Int32) (show6 : Nat → Int32) (signs6 : Nat → Int32) (many6 : Nat → Int32) : Nat → Int32 → Int64 → Option (Int32 × Int64)
  | 0, _, _ => none
  | n + 1, y6_3, k4_4 =>
  Option.bind (f_X6_paths i1 many6) fun r_7 =>
  if r_7 ≤ y6_3 then
    some (y6_3, k4_4)
  else
    if i2 = (-1) then
      Option.bind (f_X6_weighPath y6_3 i1 start6 move6 show6 signs6 many6) fun rj_11 =>
      nm (α := Int64) ((k4_4 + rj_11)) fun j4_13 =>
      nm (α := Int32) (y6_3 + 1) fun x6_14 =>
      f_X6_sum_L6 i1 i2 i3 start6 move6 show6 signs6 many6 n x6_14 j4_13
    else
      Option.bind (f_X6_stateOf y6_3 i1 i2 many6) fun r_15 =>
      if r_15 = i3 then
        Option.bind (f_X6_weighPath y6_3 i1 start6 move6 show6 signs6 many6) fun rj_20 =>
        nm (α := Int64) ((k4_4 + rj_20)) fun j4_22 =>
        nm (α := Int32) (y6_3 + 1) fun x6_23 =>
        f_X6_sum_L6 i1 i2 i3 start6 move6 show6 signs6 many6 n x6_23 j4_22
      else
        nm (α := Int64) ((k4_4 + 0)) fun j4_18 =>
        nm (α := Int32) (y6_3 + 1) fun x6_19 =>
        f_X6_sum_L6 i1 i2 i3 start6 move6 show6 signs6 many6 n x6_19 j4_18
def f_X6_sum (i1 : Int32) (i2 : Int32) (i3 : Int32) (start6 : Nat → Int32) (move6 : Nat → Int32) (show6 : Nat → Int32) (signs6 : Nat → Int32) (many6 : Nat → Int32) : Option (Int64) :=
  nm (α := Int64) (0) fun j4_1 =>
  nm (α := Int32) (0) fun x6_2 =>
  Option.bind (f_X6_sum_L6 i1 i2 i3 start6 move6 show6 signs6 many6 FU x6_2 j4_1) fun (z6_24, z4_25) =>
  some z4_25
set_option maxHeartbeats 4000000 in
set_option maxRecDepth 100000 in
theorem c_X6_sum (l : Launch) (D : va_G) (cI cJ : ClassId) (h6 labels6a guesses6a comes6a sizes6a words6a told6a behind6a shares6a start6a move6a show6a signs6a many6a bestPath6a nextStart6a nextMove6a nextShow6a : Nat) (thrown6 : Int32) (rows6 : Int32) (labels6 : Nat → Int32) (guesses6 : Nat → Int32) (comes6 : Nat → Int32) (sizes6 : Nat → Int32) (words6 : Nat → Int32) (up6 : Int32) (down6 : Int32) (weightAbove6 : Int64) (weightBelow6 : Int64) (told6 : Nat → Int32) (length6 : Int32) (behind6 : Nat → Int32) (shares6 : Nat → Int64) (over6 : Int64) (start6 : Nat → Int32) (move6 : Nat → Int32) (show6 : Nat → Int32) (signs6 : Nat → Int32) (many6 : Nat → Int32) (bestPath6 : Nat → Int32) (nextStart6 : Nat → Int32) (nextMove6 : Nat → Int32) (nextShow6 : Nat → Int32) (i1 : Int32) (i2 : Int32) (i3 : Int32) (ret9 : Int64) (h : f_X6_sum i1 i2 i3 start6 move6 show6 signs6 many6 = some ret9) : CL l D cI cJ yX6_sum wsX6_sum 2 49 [.ref h6, .int i1, .int i2, .int i3] (w6 cI cJ h6 labels6a guesses6a comes6a sizes6a words6a told6a behind6a shares6a start6a move6a show6a signs6a many6a bestPath6a nextStart6a nextMove6a nextShow6a thrown6 rows6 labels6 guesses6 comes6 sizes6 words6 up6 down6 weightAbove6 weightBelow6 told6 length6 behind6 shares6 over6 start6 move6 show6 signs6 many6 bestPath6 nextStart6 nextMove6 nextShow6) (w6 cI cJ h6 labels6a guesses6a comes6a sizes6a words6a told6a behind6a shares6a start6a move6a show6a signs6a many6a bestPath6a nextStart6a nextMove6a nextShow6a thrown6 rows6 labels6 guesses6 comes6 sizes6 words6 up6 down6 weightAbove6 weightBelow6 told6 length6 behind6 shares6 over6 start6 move6 show6 signs6 many6 bestPath6 nextStart6 nextMove6 nextShow6) ret9 := by
  refine entL (cc := cX6_sum) (maxL := 7) (by decide) rfl (Nat.le_of_ble_eq_true rfl) ?_
  intro p e s m args below meth c ls A Q X hret
  obtain ⟨hx, hb, hml, hts, hown, hK, hA, hP, hD, hS, hl, hnm⟩ := X
  have hown : s.vm.findClass RX6 = some m.cls := hown
  have hl : lv_has ls 7 [(0, .ref h6), (1, .int i1), (2, .int i2), (3, .int i3)] := hl
  unfold f_X6_sum at h
  refine lv_lconst (v := 0) hx hb dX6_sum_0 (by decide) ?_
  refine lv_topl (fun j4_1 ej4_1 => ?_)
  have h := nm_s h j4_1 ej4_1
  refine lv_lstore (lv' := [(4, .long j4_1), (0, .ref h6), (1, .int i1), (2, .int i2), (3, .int i3)]) hx hb dX6_sum_1 hl (by decide) rfl (fun ls hl => ?_)
  refine lv_iconst (v := 0) hx hb dX6_sum_3 (by decide) ?_
  refine lv_topi (fun x6_2 ex6_2 => ?_)
  have h := nm_s h x6_2 ex6_2
  refine lv_istore (lv' := [(6, .int x6_2), (4, .long j4_1), (0, .ref h6), (1, .int i1), (2, .int i2), (3, .int i3)]) hx hb dX6_sum_4 hl (by decide) rfl (fun ls hl => ?_)
  have L6 : ∀ (n : Nat) (y6_3 : Int32) (k4_4 : Int64) (z6_5 : Int32) (z4_6 : Int64), f_X6_sum_L6 i1 i2 i3 start6 move6 show6 signs6 many6 n y6_3 k4_4 = some (z6_5, z4_6) → ∀ (H : Heap) (locs : List Loc) (ls : Array Slot), va_P D vwK (w6 cI cJ h6 labels6a guesses6a comes6a sizes6a words6a told6a behind6a shares6a start6a move6a show6a signs6a many6a bestPath6a nextStart6a nextMove6a nextShow6a thrown6 rows6 labels6 guesses6 comes6 sizes6 words6 up6 down6 weightAbove6 weightBelow6 told6 length6 behind6 shares6 over6 start6 move6 show6 signs6 many6 bestPath6 nextStart6 nextMove6 nextShow6) H → va_D A (w6 cI cJ h6 labels6a guesses6a comes6a sizes6a words6a told6a behind6a shares6a start6a move6a show6a signs6a many6a bestPath6a nextStart6a nextMove6a nextShow6a thrown6 rows6 labels6 guesses6 comes6 sizes6 words6 up6 down6 weightAbove6 weightBelow6 told6 length6 behind6 shares6 over6 start6 move6 show6 signs6 many6 bestPath6 nextStart6 nextMove6 nextShow6) → va_S A s.heap H locs → lv_has ls 7 [(6, .int y6_3), (4, .long k4_4), (0, .ref h6), (1, .int i1), (2, .int i2), (3, .int i3)] → (∀ (H : Heap) (locs : List Loc) (ls : Array Slot), va_P D vwK (w6 cI cJ h6 labels6a guesses6a comes6a sizes6a words6a told6a behind6a shares6a start6a move6a show6a signs6a many6a bestPath6a nextStart6a nextMove6a nextShow6a thrown6 rows6 labels6 guesses6 comes6 sizes6 words6 up6 down6 weightAbove6 weightBelow6 told6 length6 behind6 shares6 over6 start6 move6 show6 signs6 many6 bestPath6 nextStart6 nextMove6 nextShow6) H → va_D A (w6 cI cJ h6 labels6a guesses6a comes6a sizes6a words6a told6a behind6a shares6a start6a move6a show6a signs6a many6a bestPath6a nextStart6a nextMove6a nextShow6a thrown6 rows6 labels6 guesses6 comes6 sizes6 words6 up6 down6 weightAbove6 weightBelow6 told6 length6 behind6 shares6 over6 start6 move6 show6 signs6 many6 bestPath6 nextStart6 nextMove6 nextShow6) → va_S A s.heap H locs → lv_has ls 7 [(4, .long z4_6)] → W p l e (rmOf 2 49) s m args below meth c H locs 0 0 Q (F0 m 55 ls [])) → W p l e (rmOf 2 49) s m args below meth c H locs 0 0 Q (F0 m 6 ls []) := by
    intro n
    induction n with
    | zero => intro y6_3 k4_4 z6_5 z4_6 h; rw [f_X6_sum_L6.eq_1] at h; cases h
    | succ n ih =>
      intro y6_3 k4_4 z6_5 z4_6 h H locs ls hP hD hS hl K
      rw [f_X6_sum_L6.eq_2] at h
      refine lv_iload hx hb dX6_sum_6 (lv_at hl 0 rfl) ?_
      refine lv_aload_n hx hb dX6_sum_8 rfl (lv_at hl 2 rfl) ?_
      refine lv_iload_n hx hb dX6_sum_9 rfl (lv_at hl 3 rfl) ?_
      obtain ⟨r_7, hc_8, h⟩ := bd_s h
      refine callTi (As := [.int i1]) (rest := [.int y6_3]) ⟨hx, hb, hml, hown, hts⟩ (c_X6_paths l D cI cJ h6 labels6a guesses6a comes6a sizes6a words6a told6a behind6a shares6a start6a move6a show6a signs6a many6a bestPath6a nextStart6a nextMove6a nextShow6a thrown6 rows6 labels6 guesses6 comes6 sizes6 words6 up6 down6 weightAbove6 weightBelow6 told6 length6 behind6 shares6 over6 start6 move6 show6 signs6 many6 bestPath6 nextStart6 nextMove6 nextShow6 i1 r_7 hc_8) (cwV 1 hts gX6_sum_X6_paths rfl rfl rfl (by decide +kernel) ⟨Nat.le_of_ble_eq_true rfl, Nat.le_of_ble_eq_true rfl⟩) hK hP hD hS hA 0 5 rfl rfl rfl rfl hl.1 rfl (Nat.le_of_ble_eq_true rfl) dX6_sum_10 ⟨Nat.zero_le _, Nat.zero_le _⟩ (fun H locs hP hD hS => ?_)
      refine lv_icmp_ge (tgt := 55) hx hb dX6_sum_13 (by decide) (fun c_9 => ?_) (fun c_9 => ?_)
      · have h := it_p c_9 h
        cases h
        exact K _ _ _ hP hD hS (lv_sub hl [1] rfl)
      · have h := it_n c_9 h
        refine lv_lload hx hb dX6_sum_16 (lv_at hl 1 rfl) ?_
        refine lv_iload_n hx hb dX6_sum_18 rfl (lv_at hl 4 rfl) ?_
        refine lv_iconst (v := (-1)) hx hb dX6_sum_19 (by decide) ?_
        refine lv_icmp_eq (tgt := 35) hx hb dX6_sum_20 (by decide) (fun c_10 => ?_) (fun c_10 => ?_)
        · have h := it_p c_10 h
          refine lv_aload_n hx hb dX6_sum_35 rfl (lv_at hl 2 rfl) ?_
          refine lv_iload hx hb dX6_sum_36 (lv_at hl 0 rfl) ?_
          refine lv_iload_n hx hb dX6_sum_38 rfl (lv_at hl 3 rfl) ?_
          obtain ⟨rj_11, hc_12, h⟩ := bd_s h
          refine callTl (As := [.int y6_3, .int i1]) (rest := [.long k4_4]) ⟨hx, hb, hml, hown, hts⟩ (c_X6_weighPath l D cI cJ h6 labels6a guesses6a comes6a sizes6a words6a told6a behind6a shares6a start6a move6a show6a signs6a many6a bestPath6a nextStart6a nextMove6a nextShow6a thrown6 rows6 labels6 guesses6 comes6 sizes6 words6 up6 down6 weightAbove6 weightBelow6 told6 length6 behind6 shares6 over6 start6 move6 show6 signs6 many6 bestPath6 nextStart6 nextMove6 nextShow6 y6_3 i1 rj_11 hc_12) (cwV 2 hts gX6_sum_X6_weighPath rfl rfl rfl (by decide +kernel) ⟨Nat.le_of_ble_eq_true rfl, Nat.le_of_ble_eq_true rfl⟩) hK hP hD hS hA 0 5 rfl rfl rfl rfl hl.1 rfl (Nat.le_of_ble_eq_true rfl) dX6_sum_39 ⟨Nat.zero_le _, Nat.zero_le _⟩ (fun H locs hP hD hS => ?_)
          refine lv_goto (tgt := 46) hx hb dX6_sum_42 (by decide) ?_
          refine lv_ladd hx hb dX6_sum_46 ?_
          refine lv_topl (fun j4_13 ej4_13 => ?_)
          have h := nm_s h j4_13 ej4_13
          refine lv_lstore (lv' := [(4, .long j4_13), (6, .int y6_3), (0, .ref h6), (1, .int i1), (2, .int i2), (3, .int i3)]) hx hb dX6_sum_47 hl (by decide) rfl (fun ls hl => ?_)
          obtain ⟨x6_14, ex6_14⟩ : ∃ z : Int32, z = y6_3 + 1 := ⟨_, rfl⟩
          have h := nm_s h x6_14 ex6_14
          refine lv_iinc (v := x6_14) (lv' := [(6, .int x6_14), (4, .long j4_13), (0, .ref h6), (1, .int i1), (2, .int i2), (3, .int i3)]) hx hb dX6_sum_49 hl (k := 1) rfl (by rw [ex6_14]; rfl) (by decide) rfl (fun ls hl => ?_)
          refine lv_goto (tgt := 6) hx hb dX6_sum_52 (by decide) ?_
          exact ih _ _ _ _ h _ _ _ hP hD hS (lv_sub hl [0, 1, 2, 3, 4, 5] rfl) K
        · have h := it_n c_10 h
          refine lv_aload_n hx hb dX6_sum_23 rfl (lv_at hl 2 rfl) ?_
          refine lv_iload hx hb dX6_sum_24 (lv_at hl 0 rfl) ?_
          refine lv_iload_n hx hb dX6_sum_26 rfl (lv_at hl 3 rfl) ?_
          refine lv_iload_n hx hb dX6_sum_27 rfl (lv_at hl 4 rfl) ?_
          obtain ⟨r_15, hc_16, h⟩ := bd_s h
          refine callTi (As := [.int y6_3, .int i1, .int i2]) (rest := [.long k4_4]) ⟨hx, hb, hml, hown, hts⟩ (c_X6_stateOf l D cI cJ h6 labels6a guesses6a comes6a sizes6a words6a told6a behind6a shares6a start6a move6a show6a signs6a many6a bestPath6a nextStart6a nextMove6a nextShow6a thrown6 rows6 labels6 guesses6 comes6 sizes6 words6 up6 down6 weightAbove6 weightBelow6 told6 length6 behind6 shares6 over6 start6 move6 show6 signs6 many6 bestPath6 nextStart6 nextMove6 nextShow6 y6_3 i1 i2 r_15 hc_16) (cwV 3 hts gX6_sum_X6_stateOf rfl rfl rfl (by decide +kernel) ⟨Nat.le_of_ble_eq_true rfl, Nat.le_of_ble_eq_true rfl⟩) hK hP hD hS hA 0 5 rfl rfl rfl rfl hl.1 rfl (Nat.le_of_ble_eq_true rfl) dX6_sum_28 ⟨Nat.zero_le _, Nat.zero_le _⟩ (fun H locs hP hD hS => ?_)
          refine lv_iload_n hx hb dX6_sum_31 rfl (lv_at hl 5 rfl) ?_
          refine lv_icmp_ne (tgt := 45) hx hb dX6_sum_32 (by decide) (fun c_17 => ?_) (fun c_17 => ?_)
          · have h := it_n c_17 h
            refine lv_lconst (v := 0) hx hb dX6_sum_45 (by decide) ?_
            refine lv_ladd hx hb dX6_sum_46 ?_
            refine lv_topl (fun j4_18 ej4_18 => ?_)
            have h := nm_s h j4_18 ej4_18
            refine lv_lstore (lv' := [(4, .long j4_18), (6, .int y6_3), (0, .ref h6), (1, .int i1), (2, .int i2), (3, .int i3)]) hx hb dX6_sum_47 hl (by decide) rfl (fun ls hl => ?_)
            obtain ⟨x6_19, ex6_19⟩ : ∃ z : Int32, z = y6_3 + 1 := ⟨_, rfl⟩
            have h := nm_s h x6_19 ex6_19
            refine lv_iinc (v := x6_19) (lv' := [(6, .int x6_19), (4, .long j4_18), (0, .ref h6), (1, .int i1), (2, .int i2), (3, .int i3)]) hx hb dX6_sum_49 hl (k := 1) rfl (by rw [ex6_19]; rfl) (by decide) rfl (fun ls hl => ?_)
            refine lv_goto (tgt := 6) hx hb dX6_sum_52 (by decide) ?_
            exact ih _ _ _ _ h _ _ _ hP hD hS (lv_sub hl [0, 1, 2, 3, 4, 5] rfl) K
          · have h := it_p c_17 h
            refine lv_aload_n hx hb dX6_sum_35 rfl (lv_at hl 2 rfl) ?_
            refine lv_iload hx hb dX6_sum_36 (lv_at hl 0 rfl) ?_
            refine lv_iload_n hx hb dX6_sum_38 rfl (lv_at hl 3 rfl) ?_
            obtain ⟨rj_20, hc_21, h⟩ := bd_s h
            refine callTl (As := [.int y6_3, .int i1]) (rest := [.long k4_4]) ⟨hx, hb, hml, hown, hts⟩ (c_X6_weighPath l D cI cJ h6 labels6a guesses6a comes6a sizes6a words6a told6a behind6a shares6a start6a move6a show6a signs6a many6a bestPath6a nextStart6a nextMove6a nextShow6a thrown6 rows6 labels6 guesses6 comes6 sizes6 words6 up6 down6 weightAbove6 weightBelow6 told6 length6 behind6 shares6 over6 start6 move6 show6 signs6 many6 bestPath6 nextStart6 nextMove6 nextShow6 y6_3 i1 rj_20 hc_21) (cwV 2 hts gX6_sum_X6_weighPath rfl rfl rfl (by decide +kernel) ⟨Nat.le_of_ble_eq_true rfl, Nat.le_of_ble_eq_true rfl⟩) hK hP hD hS hA 0 5 rfl rfl rfl rfl hl.1 rfl (Nat.le_of_ble_eq_true rfl) dX6_sum_39 ⟨Nat.zero_le _, Nat.zero_le _⟩ (fun H locs hP hD hS => ?_)
            refine lv_goto (tgt := 46) hx hb dX6_sum_42 (by decide) ?_
            refine lv_ladd hx hb dX6_sum_46 ?_
            refine lv_topl (fun j4_22 ej4_22 => ?_)
            have h := nm_s h j4_22 ej4_22
            refine lv_lstore (lv' := [(4, .long j4_22), (6, .int y6_3), (0, .ref h6), (1, .int i1), (2, .int i2), (3, .int i3)]) hx hb dX6_sum_47 hl (by decide) rfl (fun ls hl => ?_)
            obtain ⟨x6_23, ex6_23⟩ : ∃ z : Int32, z = y6_3 + 1 := ⟨_, rfl⟩
            have h := nm_s h x6_23 ex6_23
            refine lv_iinc (v := x6_23) (lv' := [(6, .int x6_23), (4, .long j4_22), (0, .ref h6), (1, .int i1), (2, .int i2), (3, .int i3)]) hx hb dX6_sum_49 hl (k := 1) rfl (by rw [ex6_23]; rfl) (by decide) rfl (fun ls hl => ?_)
            refine lv_goto (tgt := 6) hx hb dX6_sum_52 (by decide) ?_
            exact ih _ _ _ _ h _ _ _ hP hD hS (lv_sub hl [0, 1, 2, 3, 4, 5] rfl) K
  obtain ⟨⟨z6_24, z4_25⟩, hl_26, h⟩ := bd_s h
  refine L6 FU x6_2 j4_1 _ _ hl_26 _ _ _ hP hD hS (lv_sub hl [0, 1, 2, 3, 4, 5] rfl) (fun H locs ls hP hD hS hl => ?_)
  refine lv_lload hx hb dX6_sum_55 (lv_at hl 0 rfl) ?_
  cases h
  exact hret _ _ _ _ hP hD hS dX6_sum_57
def f_X6_bestPathOf_L7 (i1 : Int32) (start6 : Nat → Int32) (move6 : Nat → Int32) (show6 : Nat → Int32) (signs6 : Nat → Int32) (many6 : Nat → Int32) : Nat → Int32 → Int64 → Int32 → Option (Int32 × Int64 × Int32)
  | 0, _, _, _ => none
  | n + 1, y5_4, k3_5, y2_6 =>
  Option.bind (f_X6_paths i1 many6) fun r_10 =>
  if r_10 ≤ y5_4 then
    some (y5_4, k3_5, y2_6)
  else
    Option.bind (f_X6_weighPath y5_4 i1 start6 move6 show6 signs6 many6) fun rj_13 =>
    nm (α := Int64) (rj_13) fun j6_15 =>
    if (lg_cmp j6_15 k3_5) ≤ 0 then
      nm (α := Int32) (y2_6) fun x2_17 =>
      if (lg_cmp j6_15 k3_5) ≤ 0 then
        nm (α := Int64) (k3_5) fun j3_19 =>
        nm (α := Int32) (y5_4 + 1) fun x5_20 =>
        f_X6_bestPathOf_L7 i1 start6 move6 show6 signs6 many6 n x5_20 j3_19 x2_17
      else
        nm (α := Int64) (j6_15) fun j3_21 =>
        nm (α := Int32) (y5_4 + 1) fun x5_22 =>
        f_X6_bestPathOf_L7 i1 start6 move6 show6 signs6 many6 n x5_22 j3_21 x2_17
    else
      nm (α := Int32) (y5_4) fun x2_23 =>
      if (lg_cmp j6_15 k3_5) ≤ 0 then
        nm (α := Int64) (k3_5) fun j3_25 =>
        nm (α := Int32) (y5_4 + 1) fun x5_26 =>
        f_X6_bestPathOf_L7 i1 start6 move6 show6 signs6 many6 n x5_26 j3_25 x2_23
      else
        nm (α := Int64) (j6_15) fun j3_27 =>
        nm (α := Int32) (y5_4 + 1) fun x5_28 =>
        f_X6_bestPathOf_L7 i1 start6 move6 show6 signs6 many6 n x5_28 j3_27 x2_23
def f_X6_bestPathOf (i1 : Int32) (start6 : Nat → Int32) (move6 : Nat → Int32) (show6 : Nat → Int32) (signs6 : Nat → Int32) (many6 : Nat → Int32) : Option (Int32) :=
  nm (α := Int32) ((-1)) fun x2_1 =>
  nm (α := Int64) (0) fun j3_2 =>
  nm (α := Int32) (0) fun x5_3 =>
  Option.bind (f_X6_bestPathOf_L7 i1 start6 move6 show6 signs6 many6 FU x5_3 j3_2 x2_1) fun (z5_29, z3_30, z2_31) =>
  some z2_31
set_option maxHeartbeats 4000000 in
set_option maxRecDepth 100000 in
theorem c_X6_bestPathOf (l : Launch) (D : va_G) (cI cJ : ClassId) (h6 labels6a guesses6a comes6a sizes6a words6a told6a behind6a shares6a start6a move6a show6a signs6a many6a bestPath6a nextStart6a nextMove6a nextShow6a : Nat) (thrown6 : Int32) (rows6 : Int32) (labels6 : Nat → Int32) (guesses6 : Nat → Int32) (comes6 : Nat → Int32) (sizes6 : Nat → Int32) (words6 : Nat → Int32) (up6 : Int32) (down6 : Int32) (weightAbove6 : Int64) (weightBelow6 : Int64) (told6 : Nat → Int32) (length6 : Int32) (behind6 : Nat → Int32) (shares6 : Nat → Int64) (over6 : Int64) (start6 : Nat → Int32) (move6 : Nat → Int32) (show6 : Nat → Int32) (signs6 : Nat → Int32) (many6 : Nat → Int32) (bestPath6 : Nat → Int32) (nextStart6 : Nat → Int32) (nextMove6 : Nat → Int32) (nextShow6 : Nat → Int32) (i1 : Int32) (ret9 : Int32) (h : f_X6_bestPathOf i1 start6 move6 show6 signs6 many6 = some ret9) : CI l D cI cJ yX6_bestPathOf wsX6_bestPathOf 2 49 [.ref h6, .int i1] (w6 cI cJ h6 labels6a guesses6a comes6a sizes6a words6a told6a behind6a shares6a start6a move6a show6a signs6a many6a bestPath6a nextStart6a nextMove6a nextShow6a thrown6 rows6 labels6 guesses6 comes6 sizes6 words6 up6 down6 weightAbove6 weightBelow6 told6 length6 behind6 shares6 over6 start6 move6 show6 signs6 many6 bestPath6 nextStart6 nextMove6 nextShow6) (w6 cI cJ h6 labels6a guesses6a comes6a sizes6a words6a told6a behind6a shares6a start6a move6a show6a signs6a many6a bestPath6a nextStart6a nextMove6a nextShow6a thrown6 rows6 labels6 guesses6 comes6 sizes6 words6 up6 down6 weightAbove6 weightBelow6 told6 length6 behind6 shares6 over6 start6 move6 show6 signs6 many6 bestPath6 nextStart6 nextMove6 nextShow6) ret9 := by
  refine entI (cc := cX6_bestPathOf) (maxL := 8) (by decide) rfl (Nat.le_of_ble_eq_true rfl) ?_
  intro p e s m args below meth c ls A Q X hret
  obtain ⟨hx, hb, hml, hts, hown, hK, hA, hP, hD, hS, hl, hnm⟩ := X
  have hown : s.vm.findClass RX6 = some m.cls := hown
  have hl : lv_has ls 8 [(0, .ref h6), (1, .int i1)] := hl
  unfold f_X6_bestPathOf at h
  refine lv_iconst (v := (-1)) hx hb dX6_bestPathOf_0 (by decide) ?_
  refine lv_topi (fun x2_1 ex2_1 => ?_)
  have h := nm_s h x2_1 ex2_1
  refine lv_istore_n (lv' := [(2, .int x2_1), (0, .ref h6), (1, .int i1)]) hx hb dX6_bestPathOf_1 rfl hl (by decide) rfl (fun ls hl => ?_)
  refine lv_lconst (v := 0) hx hb dX6_bestPathOf_2 (by decide) ?_
  refine lv_topl (fun j3_2 ej3_2 => ?_)
  have h := nm_s h j3_2 ej3_2
  refine lv_lstore_n (lv' := [(3, .long j3_2), (2, .int x2_1), (0, .ref h6), (1, .int i1)]) hx hb dX6_bestPathOf_3 rfl hl (by decide) rfl (fun ls hl => ?_)
  refine lv_iconst (v := 0) hx hb dX6_bestPathOf_4 (by decide) ?_
  refine lv_topi (fun x5_3 ex5_3 => ?_)
  have h := nm_s h x5_3 ex5_3
  refine lv_istore (lv' := [(5, .int x5_3), (3, .long j3_2), (2, .int x2_1), (0, .ref h6), (1, .int i1)]) hx hb dX6_bestPathOf_5 hl (by decide) rfl (fun ls hl => ?_)
  have L7 : ∀ (n : Nat) (y5_4 : Int32) (k3_5 : Int64) (y2_6 : Int32) (z5_7 : Int32) (z3_8 : Int64) (z2_9 : Int32), f_X6_bestPathOf_L7 i1 start6 move6 show6 signs6 many6 n y5_4 k3_5 y2_6 = some (z5_7, z3_8, z2_9) → ∀ (H : Heap) (locs : List Loc) (ls : Array Slot), va_P D vwK (w6 cI cJ h6 labels6a guesses6a comes6a sizes6a words6a told6a behind6a shares6a start6a move6a show6a signs6a many6a bestPath6a nextStart6a nextMove6a nextShow6a thrown6 rows6 labels6 guesses6 comes6 sizes6 words6 up6 down6 weightAbove6 weightBelow6 told6 length6 behind6 shares6 over6 start6 move6 show6 signs6 many6 bestPath6 nextStart6 nextMove6 nextShow6) H → va_D A (w6 cI cJ h6 labels6a guesses6a comes6a sizes6a words6a told6a behind6a shares6a start6a move6a show6a signs6a many6a bestPath6a nextStart6a nextMove6a nextShow6a thrown6 rows6 labels6 guesses6 comes6 sizes6 words6 up6 down6 weightAbove6 weightBelow6 told6 length6 behind6 shares6 over6 start6 move6 show6 signs6 many6 bestPath6 nextStart6 nextMove6 nextShow6) → va_S A s.heap H locs → lv_has ls 8 [(5, .int y5_4), (3, .long k3_5), (2, .int y2_6), (0, .ref h6), (1, .int i1)] → (∀ (H : Heap) (locs : List Loc) (ls : Array Slot), va_P D vwK (w6 cI cJ h6 labels6a guesses6a comes6a sizes6a words6a told6a behind6a shares6a start6a move6a show6a signs6a many6a bestPath6a nextStart6a nextMove6a nextShow6a thrown6 rows6 labels6 guesses6 comes6 sizes6 words6 up6 down6 weightAbove6 weightBelow6 told6 length6 behind6 shares6 over6 start6 move6 show6 signs6 many6 bestPath6 nextStart6 nextMove6 nextShow6) H → va_D A (w6 cI cJ h6 labels6a guesses6a comes6a sizes6a words6a told6a behind6a shares6a start6a move6a show6a signs6a many6a bestPath6a nextStart6a nextMove6a nextShow6a thrown6 rows6 labels6 guesses6 comes6 sizes6 words6 up6 down6 weightAbove6 weightBelow6 told6 length6 behind6 shares6 over6 start6 move6 show6 signs6 many6 bestPath6 nextStart6 nextMove6 nextShow6) → va_S A s.heap H locs → lv_has ls 8 [(2, .int z2_9)] → W p l e (rmOf 2 49) s m args below meth c H locs 0 0 Q (F0 m 60 ls [])) → W p l e (rmOf 2 49) s m args below meth c H locs 0 0 Q (F0 m 7 ls []) := by
    intro n
    induction n with
    | zero => intro y5_4 k3_5 y2_6 z5_7 z3_8 z2_9 h; rw [f_X6_bestPathOf_L7.eq_1] at h; cases h
    | succ n ih =>
      intro y5_4 k3_5 y2_6 z5_7 z3_8 z2_9 h H locs ls hP hD hS hl K
      rw [f_X6_bestPathOf_L7.eq_2] at h
      refine lv_iload hx hb dX6_bestPathOf_7 (lv_at hl 0 rfl) ?_
      refine lv_aload_n hx hb dX6_bestPathOf_9 rfl (lv_at hl 3 rfl) ?_
      refine lv_iload_n hx hb dX6_bestPathOf_10 rfl (lv_at hl 4 rfl) ?_
      obtain ⟨r_10, hc_11, h⟩ := bd_s h
      refine callTi (As := [.int i1]) (rest := [.int y5_4]) ⟨hx, hb, hml, hown, hts⟩ (c_X6_paths l D cI cJ h6 labels6a guesses6a comes6a sizes6a words6a told6a behind6a shares6a start6a move6a show6a signs6a many6a bestPath6a nextStart6a nextMove6a nextShow6a thrown6 rows6 labels6 guesses6 comes6 sizes6 words6 up6 down6 weightAbove6 weightBelow6 told6 length6 behind6 shares6 over6 start6 move6 show6 signs6 many6 bestPath6 nextStart6 nextMove6 nextShow6 i1 r_10 hc_11) (cwV 1 hts gX6_bestPathOf_X6_paths rfl rfl rfl (by decide +kernel) ⟨Nat.le_of_ble_eq_true rfl, Nat.le_of_ble_eq_true rfl⟩) hK hP hD hS hA 0 5 rfl rfl rfl rfl hl.1 rfl (Nat.le_of_ble_eq_true rfl) dX6_bestPathOf_11 ⟨Nat.zero_le _, Nat.zero_le _⟩ (fun H locs hP hD hS => ?_)
      refine lv_icmp_ge (tgt := 60) hx hb dX6_bestPathOf_14 (by decide) (fun c_12 => ?_) (fun c_12 => ?_)
      · have h := it_p c_12 h
        cases h
        exact K _ _ _ hP hD hS (lv_sub hl [2] rfl)
      · have h := it_n c_12 h
        refine lv_aload_n hx hb dX6_bestPathOf_17 rfl (lv_at hl 3 rfl) ?_
        refine lv_iload hx hb dX6_bestPathOf_18 (lv_at hl 0 rfl) ?_
        refine lv_iload_n hx hb dX6_bestPathOf_20 rfl (lv_at hl 4 rfl) ?_
        obtain ⟨rj_13, hc_14, h⟩ := bd_s h
        refine callTl (As := [.int y5_4, .int i1]) (rest := []) ⟨hx, hb, hml, hown, hts⟩ (c_X6_weighPath l D cI cJ h6 labels6a guesses6a comes6a sizes6a words6a told6a behind6a shares6a start6a move6a show6a signs6a many6a bestPath6a nextStart6a nextMove6a nextShow6a thrown6 rows6 labels6 guesses6 comes6 sizes6 words6 up6 down6 weightAbove6 weightBelow6 told6 length6 behind6 shares6 over6 start6 move6 show6 signs6 many6 bestPath6 nextStart6 nextMove6 nextShow6 y5_4 i1 rj_13 hc_14) (cwV 2 hts gX6_bestPathOf_X6_weighPath rfl rfl rfl (by decide +kernel) ⟨Nat.le_of_ble_eq_true rfl, Nat.le_of_ble_eq_true rfl⟩) hK hP hD hS hA 0 5 rfl rfl rfl rfl hl.1 rfl (Nat.le_of_ble_eq_true rfl) dX6_bestPathOf_21 ⟨Nat.zero_le _, Nat.zero_le _⟩ (fun H locs hP hD hS => ?_)
        refine lv_topl (fun j6_15 ej6_15 => ?_)
        have h := nm_s h j6_15 ej6_15
        refine lv_lstore (lv' := [(6, .long j6_15), (5, .int y5_4), (3, .long k3_5), (2, .int y2_6), (0, .ref h6), (1, .int i1)]) hx hb dX6_bestPathOf_24 hl (by decide) rfl (fun ls hl => ?_)
        refine lv_lload hx hb dX6_bestPathOf_26 (lv_at hl 0 rfl) ?_
        refine lv_lload_n hx hb dX6_bestPathOf_28 rfl (lv_at hl 2 rfl) ?_
        refine W.lcmp hx hb dX6_bestPathOf_29 ?_
        refine lv_if_le (tgt := 38) hx hb dX6_bestPathOf_30 (by decide) (fun c_16 => ?_) (fun c_16 => ?_)
        · have h := it_p c_16 h
          refine lv_iload_n hx hb dX6_bestPathOf_38 rfl (lv_at hl 3 rfl) ?_
          refine lv_topi (fun x2_17 ex2_17 => ?_)
          have h := nm_s h x2_17 ex2_17
          refine lv_istore_n (lv' := [(2, .int x2_17), (6, .long j6_15), (5, .int y5_4), (3, .long k3_5), (0, .ref h6), (1, .int i1)]) hx hb dX6_bestPathOf_39 rfl hl (by decide) rfl (fun ls hl => ?_)
          refine lv_lload hx hb dX6_bestPathOf_40 (lv_at hl 1 rfl) ?_
          refine lv_lload_n hx hb dX6_bestPathOf_42 rfl (lv_at hl 3 rfl) ?_
          refine W.lcmp hx hb dX6_bestPathOf_43 ?_
          refine lv_if_le (tgt := 52) hx hb dX6_bestPathOf_44 (by decide) (fun c_18 => ?_) (fun c_18 => ?_)
          · have h := it_p c_18 h
            refine lv_lload_n hx hb dX6_bestPathOf_52 rfl (lv_at hl 3 rfl) ?_
            refine lv_topl (fun j3_19 ej3_19 => ?_)
            have h := nm_s h j3_19 ej3_19
            refine lv_lstore_n (lv' := [(3, .long j3_19), (2, .int x2_17), (6, .long j6_15), (5, .int y5_4), (0, .ref h6), (1, .int i1)]) hx hb dX6_bestPathOf_53 rfl hl (by decide) rfl (fun ls hl => ?_)
            obtain ⟨x5_20, ex5_20⟩ : ∃ z : Int32, z = y5_4 + 1 := ⟨_, rfl⟩
            have h := nm_s h x5_20 ex5_20
            refine lv_iinc (v := x5_20) (lv' := [(5, .int x5_20), (3, .long j3_19), (2, .int x2_17), (6, .long j6_15), (0, .ref h6), (1, .int i1)]) hx hb dX6_bestPathOf_54 hl (k := 3) rfl (by rw [ex5_20]; rfl) (by decide) rfl (fun ls hl => ?_)
            refine lv_goto (tgt := 7) hx hb dX6_bestPathOf_57 (by decide) ?_
            exact ih _ _ _ _ _ _ h _ _ _ hP hD hS (lv_sub hl [0, 1, 2, 4, 5] rfl) K
          · have h := it_n c_18 h
            refine lv_lload hx hb dX6_bestPathOf_47 (lv_at hl 1 rfl) ?_
            refine lv_goto (tgt := 53) hx hb dX6_bestPathOf_49 (by decide) ?_
            refine lv_topl (fun j3_21 ej3_21 => ?_)
            have h := nm_s h j3_21 ej3_21
            refine lv_lstore_n (lv' := [(3, .long j3_21), (2, .int x2_17), (6, .long j6_15), (5, .int y5_4), (0, .ref h6), (1, .int i1)]) hx hb dX6_bestPathOf_53 rfl hl (by decide) rfl (fun ls hl => ?_)
            obtain ⟨x5_22, ex5_22⟩ : ∃ z : Int32, z = y5_4 + 1 := ⟨_, rfl⟩
            have h := nm_s h x5_22 ex5_22
            refine lv_iinc (v := x5_22) (lv' := [(5, .int x5_22), (3, .long j3_21), (2, .int x2_17), (6, .long j6_15), (0, .ref h6), (1, .int i1)]) hx hb dX6_bestPathOf_54 hl (k := 3) rfl (by rw [ex5_22]; rfl) (by decide) rfl (fun ls hl => ?_)
            refine lv_goto (tgt := 7) hx hb dX6_bestPathOf_57 (by decide) ?_
            exact ih _ _ _ _ _ _ h _ _ _ hP hD hS (lv_sub hl [0, 1, 2, 4, 5] rfl) K
        · have h := it_n c_16 h
          refine lv_iload hx hb dX6_bestPathOf_33 (lv_at hl 1 rfl) ?_
          refine lv_goto (tgt := 39) hx hb dX6_bestPathOf_35 (by decide) ?_
          refine lv_topi (fun x2_23 ex2_23 => ?_)
          have h := nm_s h x2_23 ex2_23
          refine lv_istore_n (lv' := [(2, .int x2_23), (6, .long j6_15), (5, .int y5_4), (3, .long k3_5), (0, .ref h6), (1, .int i1)]) hx hb dX6_bestPathOf_39 rfl hl (by decide) rfl (fun ls hl => ?_)
          refine lv_lload hx hb dX6_bestPathOf_40 (lv_at hl 1 rfl) ?_
          refine lv_lload_n hx hb dX6_bestPathOf_42 rfl (lv_at hl 3 rfl) ?_
          refine W.lcmp hx hb dX6_bestPathOf_43 ?_
          refine lv_if_le (tgt := 52) hx hb dX6_bestPathOf_44 (by decide) (fun c_24 => ?_) (fun c_24 => ?_)
          · have h := it_p c_24 h
            refine lv_lload_n hx hb dX6_bestPathOf_52 rfl (lv_at hl 3 rfl) ?_
            refine lv_topl (fun j3_25 ej3_25 => ?_)
            have h := nm_s h j3_25 ej3_25
            refine lv_lstore_n (lv' := [(3, .long j3_25), (2, .int x2_23), (6, .long j6_15), (5, .int y5_4), (0, .ref h6), (1, .int i1)]) hx hb dX6_bestPathOf_53 rfl hl (by decide) rfl (fun ls hl => ?_)
            obtain ⟨x5_26, ex5_26⟩ : ∃ z : Int32, z = y5_4 + 1 := ⟨_, rfl⟩
            have h := nm_s h x5_26 ex5_26
            refine lv_iinc (v := x5_26) (lv' := [(5, .int x5_26), (3, .long j3_25), (2, .int x2_23), (6, .long j6_15), (0, .ref h6), (1, .int i1)]) hx hb dX6_bestPathOf_54 hl (k := 3) rfl (by rw [ex5_26]; rfl) (by decide) rfl (fun ls hl => ?_)
            refine lv_goto (tgt := 7) hx hb dX6_bestPathOf_57 (by decide) ?_
            exact ih _ _ _ _ _ _ h _ _ _ hP hD hS (lv_sub hl [0, 1, 2, 4, 5] rfl) K
          · have h := it_n c_24 h
            refine lv_lload hx hb dX6_bestPathOf_47 (lv_at hl 1 rfl) ?_
            refine lv_goto (tgt := 53) hx hb dX6_bestPathOf_49 (by decide) ?_
            refine lv_topl (fun j3_27 ej3_27 => ?_)
            have h := nm_s h j3_27 ej3_27
            refine lv_lstore_n (lv' := [(3, .long j3_27), (2, .int x2_23), (6, .long j6_15), (5, .int y5_4), (0, .ref h6), (1, .int i1)]) hx hb dX6_bestPathOf_53 rfl hl (by decide) rfl (fun ls hl => ?_)
            obtain ⟨x5_28, ex5_28⟩ : ∃ z : Int32, z = y5_4 + 1 := ⟨_, rfl⟩
            have h := nm_s h x5_28 ex5_28
            refine lv_iinc (v := x5_28) (lv' := [(5, .int x5_28), (3, .long j3_27), (2, .int x2_23), (6, .long j6_15), (0, .ref h6), (1, .int i1)]) hx hb dX6_bestPathOf_54 hl (k := 3) rfl (by rw [ex5_28]; rfl) (by decide) rfl (fun ls hl => ?_)
            refine lv_goto (tgt := 7) hx hb dX6_bestPathOf_57 (by decide) ?_
            exact ih _ _ _ _ _ _ h _ _ _ hP hD hS (lv_sub hl [0, 1, 2, 4, 5] rfl) K
  obtain ⟨⟨z5_29, z3_30, z2_31⟩, hl_32, h⟩ := bd_s h
  refine L7 FU x5_3 j3_2 x2_1 _ _ _ hl_32 _ _ _ hP hD hS (lv_sub hl [0, 1, 2, 3, 4] rfl) (fun H locs ls hP hD hS hl => ?_)
  refine lv_iload_n hx hb dX6_bestPathOf_60 rfl (lv_at hl 0 rfl) ?_
  cases h
  exact hret _ _ _ _ hP hD hS dX6_bestPathOf_61
def f_X6_path (i1 : Int32) (i2 : Int32) (thrown6 : Int32) (start6 : Nat → Int32) (move6 : Nat → Int32) (show6 : Nat → Int32) (signs6 : Nat → Int32) (many6 : Nat → Int32) : Option (Int32 × Int32) :=
  nm (α := Int32) (0) fun thrown6_1 =>
  Option.bind (f_X6_within i1 0 3) fun r_2 =>
  if r_2 = 0 then
    some ((-2), thrown6_1)
  else
    Option.bind (f_X6_bestPathOf i1 start6 move6 show6 signs6 many6) fun r_5 =>
    nm (α := Int32) (r_5) fun x3_7 =>
    if x3_7 = (-1) then
      some ((-1), thrown6_1)
    else
      gA 4 many6 i1 fun v_10 =>
      Option.bind (f_X6_within i2 0 (v_10 - 1)) fun r_11 =>
      if r_11 = 0 then
        some ((-1), thrown6_1)
      else
        Option.bind (f_X6_stateOf x3_7 i1 i2 many6) fun r_14 =>
        some (r_14, thrown6_1)
set_option maxHeartbeats 4000000 in
set_option maxRecDepth 100000 in
theorem c_X6_path (l : Launch) (D : va_G) (cI cJ : ClassId) (h6 labels6a guesses6a comes6a sizes6a words6a told6a behind6a shares6a start6a move6a show6a signs6a many6a bestPath6a nextStart6a nextMove6a nextShow6a : Nat) (thrown6 : Int32) (rows6 : Int32) (labels6 : Nat → Int32) (guesses6 : Nat → Int32) (comes6 : Nat → Int32) (sizes6 : Nat → Int32) (words6 : Nat → Int32) (up6 : Int32) (down6 : Int32) (weightAbove6 : Int64) (weightBelow6 : Int64) (told6 : Nat → Int32) (length6 : Int32) (behind6 : Nat → Int32) (shares6 : Nat → Int64) (over6 : Int64) (start6 : Nat → Int32) (move6 : Nat → Int32) (show6 : Nat → Int32) (signs6 : Nat → Int32) (many6 : Nat → Int32) (bestPath6 : Nat → Int32) (nextStart6 : Nat → Int32) (nextMove6 : Nat → Int32) (nextShow6 : Nat → Int32) (i1 : Int32) (i2 : Int32) (ret9 : Int32) (thrown6z : Int32) (h : f_X6_path i1 i2 thrown6 start6 move6 show6 signs6 many6 = some (ret9, thrown6z)) : CI l D cI cJ yX6_path wsX6_path 3 76 [.ref h6, .int i1, .int i2] (w6 cI cJ h6 labels6a guesses6a comes6a sizes6a words6a told6a behind6a shares6a start6a move6a show6a signs6a many6a bestPath6a nextStart6a nextMove6a nextShow6a thrown6 rows6 labels6 guesses6 comes6 sizes6 words6 up6 down6 weightAbove6 weightBelow6 told6 length6 behind6 shares6 over6 start6 move6 show6 signs6 many6 bestPath6 nextStart6 nextMove6 nextShow6) (w6 cI cJ h6 labels6a guesses6a comes6a sizes6a words6a told6a behind6a shares6a start6a move6a show6a signs6a many6a bestPath6a nextStart6a nextMove6a nextShow6a thrown6z rows6 labels6 guesses6 comes6 sizes6 words6 up6 down6 weightAbove6 weightBelow6 told6 length6 behind6 shares6 over6 start6 move6 show6 signs6 many6 bestPath6 nextStart6 nextMove6 nextShow6) ret9 := by
  refine entI (cc := cX6_path) (maxL := 4) (by decide) rfl (Nat.le_of_ble_eq_true rfl) ?_
  intro p e s m args below meth c ls A Q X hret
  obtain ⟨hx, hb, hml, hts, hown, hK, hA, hP, hD, hS, hl, hnm⟩ := X
  have hown : s.vm.findClass RX6 = some m.cls := hown
  have hl : lv_has ls 4 [(0, .ref h6), (1, .int i1), (2, .int i2)] := hl
  have hw1 : (Cond.fieldLink RX6 69 "CountLearnersModel" "thrown" "I").before args s = true := hts _ (by decide +kernel)
  have hinX6 : ∀ w ∈ wsX60, w ∈ wsX6_path := by decide +kernel
  have hw3 : (Cond.fieldLink RX6 54 "CountLearnersModel" "many" "[I").before args s = true := hts _ (by decide +kernel)
  unfold f_X6_path at h
  refine lv_aload_n hx hb dX6_path_0 rfl (lv_at hl 0 rfl) ?_
  refine lv_iconst (v := 0) hx hb dX6_path_1 (by decide) ?_
  refine lv_topi (fun thrown6_1 ethrown6_1 => ?_)
  have h := nm_s h thrown6_1 ethrown6_1
  refine va_put (D := D) (ci := 5) (v := .int thrown6_1) (ty := .int) (C := RX6) (T := TX6) (N := 25) hx hb hts hinX6 tyX6 tyX6_ok nmX6 hown hK.1 hP hD hS 0 rfl rfl 0 (by decide) hw1 (fun _ h9 => h9) rfl (by decide +kernel) rfl rfl (Nat.le_of_ble_eq_true rfl) dX6_path_2 (fun H locs hP hD hS => ?_)
  have hP : va_P D vwK (w6 cI cJ h6 labels6a guesses6a comes6a sizes6a words6a told6a behind6a shares6a start6a move6a show6a signs6a many6a bestPath6a nextStart6a nextMove6a nextShow6a thrown6_1 rows6 labels6 guesses6 comes6 sizes6 words6 up6 down6 weightAbove6 weightBelow6 told6 length6 behind6 shares6 over6 start6 move6 show6 signs6 many6 bestPath6 nextStart6 nextMove6 nextShow6) H := hP
  have hD : va_D A (w6 cI cJ h6 labels6a guesses6a comes6a sizes6a words6a told6a behind6a shares6a start6a move6a show6a signs6a many6a bestPath6a nextStart6a nextMove6a nextShow6a thrown6_1 rows6 labels6 guesses6 comes6 sizes6 words6 up6 down6 weightAbove6 weightBelow6 told6 length6 behind6 shares6 over6 start6 move6 show6 signs6 many6 bestPath6 nextStart6 nextMove6 nextShow6) := hD
  refine lv_iload_n hx hb dX6_path_5 rfl (lv_at hl 1 rfl) ?_
  refine lv_iconst (v := 0) hx hb dX6_path_6 (by decide) ?_
  refine lv_iconst (v := 3) hx hb dX6_path_7 (by decide) ?_
  obtain ⟨r_2, hc_3, h⟩ := bd_s h
  refine callPi (As := [.int i1, .int 0, .int 3]) (rest := []) ⟨hx, hb, hml, hown, hts⟩ (c_X6_within l D cI cJ i1 0 3 r_2 hc_3) (va_cwS 3 hts gX6_path_X6_within rfl rfl rfl (by decide +kernel) ⟨Nat.le_of_ble_eq_true rfl, Nat.le_of_ble_eq_true rfl⟩) hK hP hD hS hA rfl hl.1 rfl (Nat.le_of_ble_eq_true rfl) dX6_path_8 ⟨Nat.zero_le _, Nat.zero_le _⟩ (fun H locs hP hD hS => ?_)
  refine lv_if_ne (tgt := 17) hx hb dX6_path_11 (by decide) (fun c_4 => ?_) (fun c_4 => ?_)
  · have h := it_n c_4 h
    refine lv_aload_n hx hb dX6_path_17 rfl (lv_at hl 0 rfl) ?_
    refine lv_iload_n hx hb dX6_path_18 rfl (lv_at hl 1 rfl) ?_
    obtain ⟨r_5, hc_6, h⟩ := bd_s h
    refine callTi (As := [.int i1]) (rest := []) ⟨hx, hb, hml, hown, hts⟩ (c_X6_bestPathOf l D cI cJ h6 labels6a guesses6a comes6a sizes6a words6a told6a behind6a shares6a start6a move6a show6a signs6a many6a bestPath6a nextStart6a nextMove6a nextShow6a thrown6_1 rows6 labels6 guesses6 comes6 sizes6 words6 up6 down6 weightAbove6 weightBelow6 told6 length6 behind6 shares6 over6 start6 move6 show6 signs6 many6 bestPath6 nextStart6 nextMove6 nextShow6 i1 r_5 hc_6) (cwV 1 hts gX6_path_X6_bestPathOf rfl rfl rfl (by decide +kernel) ⟨Nat.le_of_ble_eq_true rfl, Nat.le_of_ble_eq_true rfl⟩) hK hP hD hS hA 0 5 rfl rfl rfl rfl hl.1 rfl (Nat.le_of_ble_eq_true rfl) dX6_path_19 ⟨Nat.zero_le _, Nat.zero_le _⟩ (fun H locs hP hD hS => ?_)
    refine lv_topi (fun x3_7 ex3_7 => ?_)
    have h := nm_s h x3_7 ex3_7
    refine lv_istore_n (lv' := [(3, .int x3_7), (0, .ref h6), (1, .int i1), (2, .int i2)]) hx hb dX6_path_22 rfl hl (by decide) rfl (fun ls hl => ?_)
    refine lv_iload_n hx hb dX6_path_23 rfl (lv_at hl 0 rfl) ?_
    refine lv_iconst (v := (-1)) hx hb dX6_path_24 (by decide) ?_
    refine lv_icmp_eq (tgt := 44) hx hb dX6_path_25 (by decide) (fun c_8 => ?_) (fun c_8 => ?_)
    · have h := it_p c_8 h
      refine lv_iconst (v := (-1)) hx hb dX6_path_44 (by decide) ?_
      refine lv_goto (tgt := 55) hx hb dX6_path_45 (by decide) ?_
      cases h
      exact hret _ _ _ _ hP hD hS dX6_path_55
    · have h := it_n c_8 h
      refine lv_iload_n hx hb dX6_path_28 rfl (lv_at hl 3 rfl) ?_
      refine lv_iconst (v := 0) hx hb dX6_path_29 (by decide) ?_
      refine lv_aload_n hx hb dX6_path_30 rfl (lv_at hl 1 rfl) ?_
      refine va_get (D := D) (ci := 5) (v := .ref many6a) (C := RX6) (T := TX6) (N := 25) hx hb hts hinX6 hown hK.1 hP 0 rfl rfl 20 (by decide) hw3 (fun _ h9 => h9) rfl dX6_path_31 ?_
      refine lv_iload_n hx hb dX6_path_34 rfl (lv_at hl 2 rfl) ?_
      obtain ⟨hi_9, h⟩ := gA_s h
      refine va_iald hx hb hK.1 hP 13 0 rfl rfl hi_9 dX6_path_35 ?_
      refine lv_topi (fun v_10 ev_10 => ?_)
      have h := h v_10 ev_10
      refine lv_iconst (v := 1) hx hb dX6_path_36 (by decide) ?_
      refine lv_isub hx hb dX6_path_37 ?_
      obtain ⟨r_11, hc_12, h⟩ := bd_s h
      refine callPi (As := [.int i2, .int 0, .int (v_10 - 1)]) (rest := []) ⟨hx, hb, hml, hown, hts⟩ (c_X6_within l D cI cJ i2 0 (v_10 - 1) r_11 hc_12) (va_cwS 3 hts gX6_path_X6_within rfl rfl rfl (by decide +kernel) ⟨Nat.le_of_ble_eq_true rfl, Nat.le_of_ble_eq_true rfl⟩) hK hP hD hS hA rfl hl.1 rfl (Nat.le_of_ble_eq_true rfl) dX6_path_38 ⟨Nat.zero_le _, Nat.zero_le _⟩ (fun H locs hP hD hS => ?_)
      refine lv_if_ne (tgt := 48) hx hb dX6_path_41 (by decide) (fun c_13 => ?_) (fun c_13 => ?_)
      · have h := it_n c_13 h
        refine lv_aload_n hx hb dX6_path_48 rfl (lv_at hl 1 rfl) ?_
        refine lv_iload_n hx hb dX6_path_49 rfl (lv_at hl 0 rfl) ?_
        refine lv_iload_n hx hb dX6_path_50 rfl (lv_at hl 2 rfl) ?_
        refine lv_iload_n hx hb dX6_path_51 rfl (lv_at hl 3 rfl) ?_
        obtain ⟨r_14, hc_15, h⟩ := bd_s h
        refine callTi (As := [.int x3_7, .int i1, .int i2]) (rest := []) ⟨hx, hb, hml, hown, hts⟩ (c_X6_stateOf l D cI cJ h6 labels6a guesses6a comes6a sizes6a words6a told6a behind6a shares6a start6a move6a show6a signs6a many6a bestPath6a nextStart6a nextMove6a nextShow6a thrown6_1 rows6 labels6 guesses6 comes6 sizes6 words6 up6 down6 weightAbove6 weightBelow6 told6 length6 behind6 shares6 over6 start6 move6 show6 signs6 many6 bestPath6 nextStart6 nextMove6 nextShow6 x3_7 i1 i2 r_14 hc_15) (cwV 3 hts gX6_path_X6_stateOf rfl rfl rfl (by decide +kernel) ⟨Nat.le_of_ble_eq_true rfl, Nat.le_of_ble_eq_true rfl⟩) hK hP hD hS hA 0 5 rfl rfl rfl rfl hl.1 rfl (Nat.le_of_ble_eq_true rfl) dX6_path_52 ⟨Nat.zero_le _, Nat.zero_le _⟩ (fun H locs hP hD hS => ?_)
        cases h
        exact hret _ _ _ _ hP hD hS dX6_path_55
      · have h := it_p c_13 h
        refine lv_iconst (v := (-1)) hx hb dX6_path_44 (by decide) ?_
        refine lv_goto (tgt := 55) hx hb dX6_path_45 (by decide) ?_
        cases h
        exact hret _ _ _ _ hP hD hS dX6_path_55
  · have h := it_p c_4 h
    refine lv_bipush (v := (-2)) hx hb dX6_path_14 (by decide) ?_
    cases h
    exact hret _ _ _ _ hP hD hS dX6_path_16
def f_X6_total (i1 : Int32) (thrown6 : Int32) (start6 : Nat → Int32) (move6 : Nat → Int32) (show6 : Nat → Int32) (signs6 : Nat → Int32) (many6 : Nat → Int32) : Option (Int64 × Int32) :=
  nm (α := Int32) (0) fun thrown6_1 =>
  Option.bind (f_X6_within i1 0 3) fun r_2 =>
  if r_2 = 0 then
    some ((-2), thrown6_1)
  else
    Option.bind (f_X6_sum i1 (-1) 0 start6 move6 show6 signs6 many6) fun rj_5 =>
    some (rj_5, thrown6_1)
set_option maxHeartbeats 4000000 in
set_option maxRecDepth 100000 in
theorem c_X6_total (l : Launch) (D : va_G) (cI cJ : ClassId) (h6 labels6a guesses6a comes6a sizes6a words6a told6a behind6a shares6a start6a move6a show6a signs6a many6a bestPath6a nextStart6a nextMove6a nextShow6a : Nat) (thrown6 : Int32) (rows6 : Int32) (labels6 : Nat → Int32) (guesses6 : Nat → Int32) (comes6 : Nat → Int32) (sizes6 : Nat → Int32) (words6 : Nat → Int32) (up6 : Int32) (down6 : Int32) (weightAbove6 : Int64) (weightBelow6 : Int64) (told6 : Nat → Int32) (length6 : Int32) (behind6 : Nat → Int32) (shares6 : Nat → Int64) (over6 : Int64) (start6 : Nat → Int32) (move6 : Nat → Int32) (show6 : Nat → Int32) (signs6 : Nat → Int32) (many6 : Nat → Int32) (bestPath6 : Nat → Int32) (nextStart6 : Nat → Int32) (nextMove6 : Nat → Int32) (nextShow6 : Nat → Int32) (i1 : Int32) (ret9 : Int64) (thrown6z : Int32) (h : f_X6_total i1 thrown6 start6 move6 show6 signs6 many6 = some (ret9, thrown6z)) : CL l D cI cJ yX6_total wsX6_total 3 75 [.ref h6, .int i1] (w6 cI cJ h6 labels6a guesses6a comes6a sizes6a words6a told6a behind6a shares6a start6a move6a show6a signs6a many6a bestPath6a nextStart6a nextMove6a nextShow6a thrown6 rows6 labels6 guesses6 comes6 sizes6 words6 up6 down6 weightAbove6 weightBelow6 told6 length6 behind6 shares6 over6 start6 move6 show6 signs6 many6 bestPath6 nextStart6 nextMove6 nextShow6) (w6 cI cJ h6 labels6a guesses6a comes6a sizes6a words6a told6a behind6a shares6a start6a move6a show6a signs6a many6a bestPath6a nextStart6a nextMove6a nextShow6a thrown6z rows6 labels6 guesses6 comes6 sizes6 words6 up6 down6 weightAbove6 weightBelow6 told6 length6 behind6 shares6 over6 start6 move6 show6 signs6 many6 bestPath6 nextStart6 nextMove6 nextShow6) ret9 := by
  refine entL (cc := cX6_total) (maxL := 2) (by decide) rfl (Nat.le_of_ble_eq_true rfl) ?_
  intro p e s m args below meth c ls A Q X hret
  obtain ⟨hx, hb, hml, hts, hown, hK, hA, hP, hD, hS, hl, hnm⟩ := X
  have hown : s.vm.findClass RX6 = some m.cls := hown
  have hl : lv_has ls 2 [(0, .ref h6), (1, .int i1)] := hl
  have hw1 : (Cond.fieldLink RX6 69 "CountLearnersModel" "thrown" "I").before args s = true := hts _ (by decide +kernel)
  have hinX6 : ∀ w ∈ wsX60, w ∈ wsX6_total := by decide +kernel
  have hw3 : (Cond.constantLong RX6 106 (-2)).before args s = true := hts _ (by decide +kernel)
  unfold f_X6_total at h
  refine lv_aload_n hx hb dX6_total_0 rfl (lv_at hl 0 rfl) ?_
  refine lv_iconst (v := 0) hx hb dX6_total_1 (by decide) ?_
  refine lv_topi (fun thrown6_1 ethrown6_1 => ?_)
  have h := nm_s h thrown6_1 ethrown6_1
  refine va_put (D := D) (ci := 5) (v := .int thrown6_1) (ty := .int) (C := RX6) (T := TX6) (N := 25) hx hb hts hinX6 tyX6 tyX6_ok nmX6 hown hK.1 hP hD hS 0 rfl rfl 0 (by decide) hw1 (fun _ h9 => h9) rfl (by decide +kernel) rfl rfl (Nat.le_of_ble_eq_true rfl) dX6_total_2 (fun H locs hP hD hS => ?_)
  have hP : va_P D vwK (w6 cI cJ h6 labels6a guesses6a comes6a sizes6a words6a told6a behind6a shares6a start6a move6a show6a signs6a many6a bestPath6a nextStart6a nextMove6a nextShow6a thrown6_1 rows6 labels6 guesses6 comes6 sizes6 words6 up6 down6 weightAbove6 weightBelow6 told6 length6 behind6 shares6 over6 start6 move6 show6 signs6 many6 bestPath6 nextStart6 nextMove6 nextShow6) H := hP
  have hD : va_D A (w6 cI cJ h6 labels6a guesses6a comes6a sizes6a words6a told6a behind6a shares6a start6a move6a show6a signs6a many6a bestPath6a nextStart6a nextMove6a nextShow6a thrown6_1 rows6 labels6 guesses6 comes6 sizes6 words6 up6 down6 weightAbove6 weightBelow6 told6 length6 behind6 shares6 over6 start6 move6 show6 signs6 many6 bestPath6 nextStart6 nextMove6 nextShow6) := hD
  refine lv_iload_n hx hb dX6_total_5 rfl (lv_at hl 1 rfl) ?_
  refine lv_iconst (v := 0) hx hb dX6_total_6 (by decide) ?_
  refine lv_iconst (v := 3) hx hb dX6_total_7 (by decide) ?_
  obtain ⟨r_2, hc_3, h⟩ := bd_s h
  refine callPi (As := [.int i1, .int 0, .int 3]) (rest := []) ⟨hx, hb, hml, hown, hts⟩ (c_X6_within l D cI cJ i1 0 3 r_2 hc_3) (va_cwS 3 hts gX6_total_X6_within rfl rfl rfl (by decide +kernel) ⟨Nat.le_of_ble_eq_true rfl, Nat.le_of_ble_eq_true rfl⟩) hK hP hD hS hA rfl hl.1 rfl (Nat.le_of_ble_eq_true rfl) dX6_total_8 ⟨Nat.zero_le _, Nat.zero_le _⟩ (fun H locs hP hD hS => ?_)
  refine lv_if_eq (tgt := 24) hx hb dX6_total_11 (by decide) (fun c_4 => ?_) (fun c_4 => ?_)
  · have h := it_p c_4 h
    refine lv_ldc2 (v := (-2)) hx hb hown hw3 dX6_total_24 ?_
    cases h
    exact hret _ _ _ _ hP hD hS dX6_total_27
  · have h := it_n c_4 h
    refine lv_aload_n hx hb dX6_total_14 rfl (lv_at hl 0 rfl) ?_
    refine lv_iload_n hx hb dX6_total_15 rfl (lv_at hl 1 rfl) ?_
    refine lv_iconst (v := (-1)) hx hb dX6_total_16 (by decide) ?_
    refine lv_iconst (v := 0) hx hb dX6_total_17 (by decide) ?_
    obtain ⟨rj_5, hc_6, h⟩ := bd_s h
    refine callTl (As := [.int i1, .int (-1), .int 0]) (rest := []) ⟨hx, hb, hml, hown, hts⟩ (c_X6_sum l D cI cJ h6 labels6a guesses6a comes6a sizes6a words6a told6a behind6a shares6a start6a move6a show6a signs6a many6a bestPath6a nextStart6a nextMove6a nextShow6a thrown6_1 rows6 labels6 guesses6 comes6 sizes6 words6 up6 down6 weightAbove6 weightBelow6 told6 length6 behind6 shares6 over6 start6 move6 show6 signs6 many6 bestPath6 nextStart6 nextMove6 nextShow6 i1 (-1) 0 rj_5 hc_6) (cwV 3 hts gX6_total_X6_sum rfl rfl rfl (by decide +kernel) ⟨Nat.le_of_ble_eq_true rfl, Nat.le_of_ble_eq_true rfl⟩) hK hP hD hS hA 0 5 rfl rfl rfl rfl hl.1 rfl (Nat.le_of_ble_eq_true rfl) dX6_total_18 ⟨Nat.zero_le _, Nat.zero_le _⟩ (fun H locs hP hD hS => ?_)
    refine lv_goto (tgt := 27) hx hb dX6_total_21 (by decide) ?_
    cases h
    exact hret _ _ _ _ hP hD hS dX6_total_27
def f_X6_at (i1 : Int32) (i2 : Int32) (i3 : Int32) (i4 : Int32) (thrown6 : Int32) (start6 : Nat → Int32) (move6 : Nat → Int32) (show6 : Nat → Int32) (signs6 : Nat → Int32) (many6 : Nat → Int32) : Option (Int64 × Int32) :=
  nm (α := Int32) (0) fun thrown6_1 =>
  Option.bind (f_X6_within i1 0 3) fun r_2 =>
  if r_2 = 0 then
    some ((-2), thrown6_1)
  else
    gA 4 many6 i1 fun v_6 =>
    Option.bind (f_X6_within i2 0 (v_6 - 1)) fun r_7 =>
    if r_7 = 0 then
      some ((-2), thrown6_1)
    else
      Option.bind (f_X6_within i3 0 3) fun r_10 =>
      if r_10 = 0 then
        some ((-2), thrown6_1)
      else
        Option.bind (f_X6_within i4 0 1) fun r_13 =>
        if r_13 = 0 then
          some ((-2), thrown6_1)
        else
          Option.bind (f_X6_sum i1 (-1) 0 start6 move6 show6 signs6 many6) fun rj_16 =>
          nm (α := Int64) (rj_16) fun j5_18 =>
          if (lg_cmp j5_18 0) = 0 then
            nm (α := Int32) (1) fun thrown6_24 =>
            some (0, thrown6_24)
          else
            Option.bind (f_X6_sum i1 i2 i3 start6 move6 show6 signs6 many6) fun rj_20 =>
            Option.bind (f_X6_side rj_20 j5_18 i4) fun rj_22 =>
            some (rj_22, thrown6_1)
set_option maxHeartbeats 4000000 in
set_option maxRecDepth 100000 in
theorem c_X6_at (l : Launch) (D : va_G) (cI cJ : ClassId) (h6 labels6a guesses6a comes6a sizes6a words6a told6a behind6a shares6a start6a move6a show6a signs6a many6a bestPath6a nextStart6a nextMove6a nextShow6a : Nat) (thrown6 : Int32) (rows6 : Int32) (labels6 : Nat → Int32) (guesses6 : Nat → Int32) (comes6 : Nat → Int32) (sizes6 : Nat → Int32) (words6 : Nat → Int32) (up6 : Int32) (down6 : Int32) (weightAbove6 : Int64) (weightBelow6 : Int64) (told6 : Nat → Int32) (length6 : Int32) (behind6 : Nat → Int32) (shares6 : Nat → Int64) (over6 : Int64) (start6 : Nat → Int32) (move6 : Nat → Int32) (show6 : Nat → Int32) (signs6 : Nat → Int32) (many6 : Nat → Int32) (bestPath6 : Nat → Int32) (nextStart6 : Nat → Int32) (nextMove6 : Nat → Int32) (nextShow6 : Nat → Int32) (i1 : Int32) (i2 : Int32) (i3 : Int32) (i4 : Int32) (ret9 : Int64) (thrown6z : Int32) (h : f_X6_at i1 i2 i3 i4 thrown6 start6 move6 show6 signs6 many6 = some (ret9, thrown6z)) : CL l D cI cJ yX6_at wsX6_at 3 75 [.ref h6, .int i1, .int i2, .int i3, .int i4] (w6 cI cJ h6 labels6a guesses6a comes6a sizes6a words6a told6a behind6a shares6a start6a move6a show6a signs6a many6a bestPath6a nextStart6a nextMove6a nextShow6a thrown6 rows6 labels6 guesses6 comes6 sizes6 words6 up6 down6 weightAbove6 weightBelow6 told6 length6 behind6 shares6 over6 start6 move6 show6 signs6 many6 bestPath6 nextStart6 nextMove6 nextShow6) (w6 cI cJ h6 labels6a guesses6a comes6a sizes6a words6a told6a behind6a shares6a start6a move6a show6a signs6a many6a bestPath6a nextStart6a nextMove6a nextShow6a thrown6z rows6 labels6 guesses6 comes6 sizes6 words6 up6 down6 weightAbove6 weightBelow6 told6 length6 behind6 shares6 over6 start6 move6 show6 signs6 many6 bestPath6 nextStart6 nextMove6 nextShow6) ret9 := by
  refine entL (cc := cX6_at) (maxL := 7) (by decide) rfl (Nat.le_of_ble_eq_true rfl) ?_
  intro p e s m args below meth c ls A Q X hret
  obtain ⟨hx, hb, hml, hts, hown, hK, hA, hP, hD, hS, hl, hnm⟩ := X
  have hown : s.vm.findClass RX6 = some m.cls := hown
  have hl : lv_has ls 7 [(0, .ref h6), (1, .int i1), (2, .int i2), (3, .int i3), (4, .int i4)] := hl
  have hw1 : (Cond.fieldLink RX6 69 "CountLearnersModel" "thrown" "I").before args s = true := hts _ (by decide +kernel)
  have hinX6 : ∀ w ∈ wsX60, w ∈ wsX6_at := by decide +kernel
  have hw3 : (Cond.constantLong RX6 106 (-2)).before args s = true := hts _ (by decide +kernel)
  have hw4 : (Cond.fieldLink RX6 54 "CountLearnersModel" "many" "[I").before args s = true := hts _ (by decide +kernel)
  unfold f_X6_at at h
  refine lv_aload_n hx hb dX6_at_0 rfl (lv_at hl 0 rfl) ?_
  refine lv_iconst (v := 0) hx hb dX6_at_1 (by decide) ?_
  refine lv_topi (fun thrown6_1 ethrown6_1 => ?_)
  have h := nm_s h thrown6_1 ethrown6_1
  refine va_put (D := D) (ci := 5) (v := .int thrown6_1) (ty := .int) (C := RX6) (T := TX6) (N := 25) hx hb hts hinX6 tyX6 tyX6_ok nmX6 hown hK.1 hP hD hS 0 rfl rfl 0 (by decide) hw1 (fun _ h9 => h9) rfl (by decide +kernel) rfl rfl (Nat.le_of_ble_eq_true rfl) dX6_at_2 (fun H locs hP hD hS => ?_)
  have hP : va_P D vwK (w6 cI cJ h6 labels6a guesses6a comes6a sizes6a words6a told6a behind6a shares6a start6a move6a show6a signs6a many6a bestPath6a nextStart6a nextMove6a nextShow6a thrown6_1 rows6 labels6 guesses6 comes6 sizes6 words6 up6 down6 weightAbove6 weightBelow6 told6 length6 behind6 shares6 over6 start6 move6 show6 signs6 many6 bestPath6 nextStart6 nextMove6 nextShow6) H := hP
  have hD : va_D A (w6 cI cJ h6 labels6a guesses6a comes6a sizes6a words6a told6a behind6a shares6a start6a move6a show6a signs6a many6a bestPath6a nextStart6a nextMove6a nextShow6a thrown6_1 rows6 labels6 guesses6 comes6 sizes6 words6 up6 down6 weightAbove6 weightBelow6 told6 length6 behind6 shares6 over6 start6 move6 show6 signs6 many6 bestPath6 nextStart6 nextMove6 nextShow6) := hD
  refine lv_iload_n hx hb dX6_at_5 rfl (lv_at hl 1 rfl) ?_
  refine lv_iconst (v := 0) hx hb dX6_at_6 (by decide) ?_
  refine lv_iconst (v := 3) hx hb dX6_at_7 (by decide) ?_
  obtain ⟨r_2, hc_3, h⟩ := bd_s h
  refine callPi (As := [.int i1, .int 0, .int 3]) (rest := []) ⟨hx, hb, hml, hown, hts⟩ (c_X6_within l D cI cJ i1 0 3 r_2 hc_3) (va_cwS 3 hts gX6_at_X6_within rfl rfl rfl (by decide +kernel) ⟨Nat.le_of_ble_eq_true rfl, Nat.le_of_ble_eq_true rfl⟩) hK hP hD hS hA rfl hl.1 rfl (Nat.le_of_ble_eq_true rfl) dX6_at_8 ⟨Nat.zero_le _, Nat.zero_le _⟩ (fun H locs hP hD hS => ?_)
  refine lv_if_eq (tgt := 49) hx hb dX6_at_11 (by decide) (fun c_4 => ?_) (fun c_4 => ?_)
  · have h := it_p c_4 h
    refine lv_ldc2 (v := (-2)) hx hb hown hw3 dX6_at_49 ?_
    cases h
    exact hret _ _ _ _ hP hD hS dX6_at_52
  · have h := it_n c_4 h
    refine lv_iload_n hx hb dX6_at_14 rfl (lv_at hl 2 rfl) ?_
    refine lv_iconst (v := 0) hx hb dX6_at_15 (by decide) ?_
    refine lv_aload_n hx hb dX6_at_16 rfl (lv_at hl 0 rfl) ?_
    refine va_get (D := D) (ci := 5) (v := .ref many6a) (C := RX6) (T := TX6) (N := 25) hx hb hts hinX6 hown hK.1 hP 0 rfl rfl 20 (by decide) hw4 (fun _ h9 => h9) rfl dX6_at_17 ?_
    refine lv_iload_n hx hb dX6_at_20 rfl (lv_at hl 1 rfl) ?_
    obtain ⟨hi_5, h⟩ := gA_s h
    refine va_iald hx hb hK.1 hP 13 0 rfl rfl hi_5 dX6_at_21 ?_
    refine lv_topi (fun v_6 ev_6 => ?_)
    have h := h v_6 ev_6
    refine lv_iconst (v := 1) hx hb dX6_at_22 (by decide) ?_
    refine lv_isub hx hb dX6_at_23 ?_
    obtain ⟨r_7, hc_8, h⟩ := bd_s h
    refine callPi (As := [.int i2, .int 0, .int (v_6 - 1)]) (rest := []) ⟨hx, hb, hml, hown, hts⟩ (c_X6_within l D cI cJ i2 0 (v_6 - 1) r_7 hc_8) (va_cwS 3 hts gX6_at_X6_within rfl rfl rfl (by decide +kernel) ⟨Nat.le_of_ble_eq_true rfl, Nat.le_of_ble_eq_true rfl⟩) hK hP hD hS hA rfl hl.1 rfl (Nat.le_of_ble_eq_true rfl) dX6_at_24 ⟨Nat.zero_le _, Nat.zero_le _⟩ (fun H locs hP hD hS => ?_)
    refine lv_if_eq (tgt := 49) hx hb dX6_at_27 (by decide) (fun c_9 => ?_) (fun c_9 => ?_)
    · have h := it_p c_9 h
      refine lv_ldc2 (v := (-2)) hx hb hown hw3 dX6_at_49 ?_
      cases h
      exact hret _ _ _ _ hP hD hS dX6_at_52
    · have h := it_n c_9 h
      refine lv_iload_n hx hb dX6_at_30 rfl (lv_at hl 3 rfl) ?_
      refine lv_iconst (v := 0) hx hb dX6_at_31 (by decide) ?_
      refine lv_iconst (v := 3) hx hb dX6_at_32 (by decide) ?_
      obtain ⟨r_10, hc_11, h⟩ := bd_s h
      refine callPi (As := [.int i3, .int 0, .int 3]) (rest := []) ⟨hx, hb, hml, hown, hts⟩ (c_X6_within l D cI cJ i3 0 3 r_10 hc_11) (va_cwS 3 hts gX6_at_X6_within rfl rfl rfl (by decide +kernel) ⟨Nat.le_of_ble_eq_true rfl, Nat.le_of_ble_eq_true rfl⟩) hK hP hD hS hA rfl hl.1 rfl (Nat.le_of_ble_eq_true rfl) dX6_at_33 ⟨Nat.zero_le _, Nat.zero_le _⟩ (fun H locs hP hD hS => ?_)
      refine lv_if_eq (tgt := 49) hx hb dX6_at_36 (by decide) (fun c_12 => ?_) (fun c_12 => ?_)
      · have h := it_p c_12 h
        refine lv_ldc2 (v := (-2)) hx hb hown hw3 dX6_at_49 ?_
        cases h
        exact hret _ _ _ _ hP hD hS dX6_at_52
      · have h := it_n c_12 h
        refine lv_iload hx hb dX6_at_39 (lv_at hl 4 rfl) ?_
        refine lv_iconst (v := 0) hx hb dX6_at_41 (by decide) ?_
        refine lv_iconst (v := 1) hx hb dX6_at_42 (by decide) ?_
        obtain ⟨r_13, hc_14, h⟩ := bd_s h
        refine callPi (As := [.int i4, .int 0, .int 1]) (rest := []) ⟨hx, hb, hml, hown, hts⟩ (c_X6_within l D cI cJ i4 0 1 r_13 hc_14) (va_cwS 3 hts gX6_at_X6_within rfl rfl rfl (by decide +kernel) ⟨Nat.le_of_ble_eq_true rfl, Nat.le_of_ble_eq_true rfl⟩) hK hP hD hS hA rfl hl.1 rfl (Nat.le_of_ble_eq_true rfl) dX6_at_43 ⟨Nat.zero_le _, Nat.zero_le _⟩ (fun H locs hP hD hS => ?_)
        refine lv_if_ne (tgt := 53) hx hb dX6_at_46 (by decide) (fun c_15 => ?_) (fun c_15 => ?_)
        · have h := it_n c_15 h
          refine lv_aload_n hx hb dX6_at_53 rfl (lv_at hl 0 rfl) ?_
          refine lv_iload_n hx hb dX6_at_54 rfl (lv_at hl 1 rfl) ?_
          refine lv_iconst (v := (-1)) hx hb dX6_at_55 (by decide) ?_
          refine lv_iconst (v := 0) hx hb dX6_at_56 (by decide) ?_
          obtain ⟨rj_16, hc_17, h⟩ := bd_s h
          refine callTl (As := [.int i1, .int (-1), .int 0]) (rest := []) ⟨hx, hb, hml, hown, hts⟩ (c_X6_sum l D cI cJ h6 labels6a guesses6a comes6a sizes6a words6a told6a behind6a shares6a start6a move6a show6a signs6a many6a bestPath6a nextStart6a nextMove6a nextShow6a thrown6_1 rows6 labels6 guesses6 comes6 sizes6 words6 up6 down6 weightAbove6 weightBelow6 told6 length6 behind6 shares6 over6 start6 move6 show6 signs6 many6 bestPath6 nextStart6 nextMove6 nextShow6 i1 (-1) 0 rj_16 hc_17) (cwV 3 hts gX6_at_X6_sum rfl rfl rfl (by decide +kernel) ⟨Nat.le_of_ble_eq_true rfl, Nat.le_of_ble_eq_true rfl⟩) hK hP hD hS hA 0 5 rfl rfl rfl rfl hl.1 rfl (Nat.le_of_ble_eq_true rfl) dX6_at_57 ⟨Nat.zero_le _, Nat.zero_le _⟩ (fun H locs hP hD hS => ?_)
          refine lv_topl (fun j5_18 ej5_18 => ?_)
          have h := nm_s h j5_18 ej5_18
          refine lv_lstore (lv' := [(5, .long j5_18), (0, .ref h6), (1, .int i1), (2, .int i2), (3, .int i3), (4, .int i4)]) hx hb dX6_at_60 hl (by decide) rfl (fun ls hl => ?_)
          refine lv_lload hx hb dX6_at_62 (lv_at hl 0 rfl) ?_
          refine lv_lconst (v := 0) hx hb dX6_at_64 (by decide) ?_
          refine W.lcmp hx hb dX6_at_65 ?_
          refine lv_if_ne (tgt := 76) hx hb dX6_at_66 (by decide) (fun c_19 => ?_) (fun c_19 => ?_)
          · have h := it_n c_19 h
            refine lv_aload_n hx hb dX6_at_76 rfl (lv_at hl 1 rfl) ?_
            refine lv_iload_n hx hb dX6_at_77 rfl (lv_at hl 2 rfl) ?_
            refine lv_iload_n hx hb dX6_at_78 rfl (lv_at hl 3 rfl) ?_
            refine lv_iload_n hx hb dX6_at_79 rfl (lv_at hl 4 rfl) ?_
            obtain ⟨rj_20, hc_21, h⟩ := bd_s h
            refine callTl (As := [.int i1, .int i2, .int i3]) (rest := []) ⟨hx, hb, hml, hown, hts⟩ (c_X6_sum l D cI cJ h6 labels6a guesses6a comes6a sizes6a words6a told6a behind6a shares6a start6a move6a show6a signs6a many6a bestPath6a nextStart6a nextMove6a nextShow6a thrown6_1 rows6 labels6 guesses6 comes6 sizes6 words6 up6 down6 weightAbove6 weightBelow6 told6 length6 behind6 shares6 over6 start6 move6 show6 signs6 many6 bestPath6 nextStart6 nextMove6 nextShow6 i1 i2 i3 rj_20 hc_21) (cwV 3 hts gX6_at_X6_sum rfl rfl rfl (by decide +kernel) ⟨Nat.le_of_ble_eq_true rfl, Nat.le_of_ble_eq_true rfl⟩) hK hP hD hS hA 0 5 rfl rfl rfl rfl hl.1 rfl (Nat.le_of_ble_eq_true rfl) dX6_at_80 ⟨Nat.zero_le _, Nat.zero_le _⟩ (fun H locs hP hD hS => ?_)
            refine lv_lload hx hb dX6_at_83 (lv_at hl 0 rfl) ?_
            refine lv_iload hx hb dX6_at_85 (lv_at hl 5 rfl) ?_
            obtain ⟨rj_22, hc_23, h⟩ := bd_s h
            refine callPl (As := [.long rj_20, .long j5_18, .int i4]) (rest := []) ⟨hx, hb, hml, hown, hts⟩ (c_X6_side l D cI cJ rj_20 j5_18 i4 rj_22 hc_23) (va_cwS 3 hts gX6_at_X6_side rfl rfl rfl (by decide +kernel) ⟨Nat.le_of_ble_eq_true rfl, Nat.le_of_ble_eq_true rfl⟩) hK hP hD hS hA rfl hl.1 rfl (Nat.le_of_ble_eq_true rfl) dX6_at_87 ⟨Nat.zero_le _, Nat.zero_le _⟩ (fun H locs hP hD hS => ?_)
            cases h
            exact hret _ _ _ _ hP hD hS dX6_at_90
          · have h := it_p c_19 h
            refine lv_aload_n hx hb dX6_at_69 rfl (lv_at hl 1 rfl) ?_
            refine lv_iconst (v := 1) hx hb dX6_at_70 (by decide) ?_
            refine lv_topi (fun thrown6_24 ethrown6_24 => ?_)
            have h := nm_s h thrown6_24 ethrown6_24
            refine va_put (D := D) (ci := 5) (v := .int thrown6_24) (ty := .int) (C := RX6) (T := TX6) (N := 25) hx hb hts hinX6 tyX6 tyX6_ok nmX6 hown hK.1 hP hD hS 0 rfl rfl 0 (by decide) hw1 (fun _ h9 => h9) rfl (by decide +kernel) rfl rfl (Nat.le_of_ble_eq_true rfl) dX6_at_71 (fun H locs hP hD hS => ?_)
            have hP : va_P D vwK (w6 cI cJ h6 labels6a guesses6a comes6a sizes6a words6a told6a behind6a shares6a start6a move6a show6a signs6a many6a bestPath6a nextStart6a nextMove6a nextShow6a thrown6_24 rows6 labels6 guesses6 comes6 sizes6 words6 up6 down6 weightAbove6 weightBelow6 told6 length6 behind6 shares6 over6 start6 move6 show6 signs6 many6 bestPath6 nextStart6 nextMove6 nextShow6) H := hP
            have hD : va_D A (w6 cI cJ h6 labels6a guesses6a comes6a sizes6a words6a told6a behind6a shares6a start6a move6a show6a signs6a many6a bestPath6a nextStart6a nextMove6a nextShow6a thrown6_24 rows6 labels6 guesses6 comes6 sizes6 words6 up6 down6 weightAbove6 weightBelow6 told6 length6 behind6 shares6 over6 start6 move6 show6 signs6 many6 bestPath6 nextStart6 nextMove6 nextShow6) := hD
            refine lv_lconst (v := 0) hx hb dX6_at_74 (by decide) ?_
            cases h
            exact hret _ _ _ _ hP hD hS dX6_at_75
        · have h := it_p c_15 h
          refine lv_ldc2 (v := (-2)) hx hb hown hw3 dX6_at_49 ?_
          cases h
          exact hret _ _ _ _ hP hD hS dX6_at_52
def f_X6_countPath_L2 (i1 : Int32) (i2 : Int32) (signs6 : Nat → Int32) (many6 : Nat → Int32) : Nat → Int32 → (Nat → Int32) → (Nat → Int32) → (Nat → Int32) → Option (Int32 × (Nat → Int32) × (Nat → Int32) × (Nat → Int32))
  | 0, _, _, _, _ => none
  | n + 1, y3_2, nextStart6_3, nextMove6_4, nextShow6_5 =>
  gA 4 many6 i2 fun v_11 =>
  if v_11 ≤ y3_2 then
    some (y3_2, nextStart6_3, nextMove6_4, nextShow6_5)
  else
    Option.bind (f_X6_stateOf i1 i2 y3_2 many6) fun r_13 =>
    nm (α := Int32) (r_13) fun x4_15 =>
    if y3_2 = 0 then
      gA 4 nextStart6_3 x4_15 fun v_31 =>
      sI 4 nextStart6_3 x4_15 (v_31 + 1) fun nextStart6_33 =>
      gA 20 signs6 ((5 * i2) + y3_2) fun v_35 =>
      gA 16 nextShow6_5 ((4 * x4_15) + v_35) fun v_37 =>
      sI 16 nextShow6_5 ((4 * x4_15) + v_35) (v_37 + 1) fun nextShow6_39 =>
      nm (α := Int32) (y3_2 + 1) fun x3_40 =>
      f_X6_countPath_L2 i1 i2 signs6 many6 n x3_40 nextStart6_33 nextMove6_4 nextShow6_39
    else
      Option.bind (f_X6_stateOf i1 i2 (y3_2 - 1) many6) fun r_17 =>
      gA 16 nextMove6_4 ((4 * r_17) + x4_15) fun v_20 =>
      sI 16 nextMove6_4 ((4 * r_17) + x4_15) (v_20 + 1) fun nextMove6_22 =>
      gA 20 signs6 ((5 * i2) + y3_2) fun v_24 =>
      gA 16 nextShow6_5 ((4 * x4_15) + v_24) fun v_26 =>
      sI 16 nextShow6_5 ((4 * x4_15) + v_24) (v_26 + 1) fun nextShow6_28 =>
      nm (α := Int32) (y3_2 + 1) fun x3_29 =>
      f_X6_countPath_L2 i1 i2 signs6 many6 n x3_29 nextStart6_3 nextMove6_22 nextShow6_28
def f_X6_countPath (i1 : Int32) (i2 : Int32) (signs6 : Nat → Int32) (many6 : Nat → Int32) (nextStart6 : Nat → Int32) (nextMove6 : Nat → Int32) (nextShow6 : Nat → Int32) : Option ((Nat → Int32) × (Nat → Int32) × (Nat → Int32)) :=
  nm (α := Int32) (0) fun x3_1 =>
  Option.bind (f_X6_countPath_L2 i1 i2 signs6 many6 FU x3_1 nextStart6 nextMove6 nextShow6) fun (z3_41, nextStart6_42, nextMove6_43, nextShow6_44) =>
  some (nextStart6_42, nextMove6_43, nextShow6_44)
set_option maxHeartbeats 4000000 in
set_option maxRecDepth 100000 in
theorem c_X6_countPath (l : Launch) (D : va_G) (cI cJ : ClassId) (h6 labels6a guesses6a comes6a sizes6a words6a told6a behind6a shares6a start6a move6a show6a signs6a many6a bestPath6a nextStart6a nextMove6a nextShow6a : Nat) (thrown6 : Int32) (rows6 : Int32) (labels6 : Nat → Int32) (guesses6 : Nat → Int32) (comes6 : Nat → Int32) (sizes6 : Nat → Int32) (words6 : Nat → Int32) (up6 : Int32) (down6 : Int32) (weightAbove6 : Int64) (weightBelow6 : Int64) (told6 : Nat → Int32) (length6 : Int32) (behind6 : Nat → Int32) (shares6 : Nat → Int64) (over6 : Int64) (start6 : Nat → Int32) (move6 : Nat → Int32) (show6 : Nat → Int32) (signs6 : Nat → Int32) (many6 : Nat → Int32) (bestPath6 : Nat → Int32) (nextStart6 : Nat → Int32) (nextMove6 : Nat → Int32) (nextShow6 : Nat → Int32) (i1 : Int32) (i2 : Int32) (nextStart6z : Nat → Int32) (nextMove6z : Nat → Int32) (nextShow6z : Nat → Int32) (h : f_X6_countPath i1 i2 signs6 many6 nextStart6 nextMove6 nextShow6 = some (nextStart6z, nextMove6z, nextShow6z)) : CV l D cI cJ yX6_countPath wsX6_countPath 1 23 [.ref h6, .int i1, .int i2] (w6 cI cJ h6 labels6a guesses6a comes6a sizes6a words6a told6a behind6a shares6a start6a move6a show6a signs6a many6a bestPath6a nextStart6a nextMove6a nextShow6a thrown6 rows6 labels6 guesses6 comes6 sizes6 words6 up6 down6 weightAbove6 weightBelow6 told6 length6 behind6 shares6 over6 start6 move6 show6 signs6 many6 bestPath6 nextStart6 nextMove6 nextShow6) (w6 cI cJ h6 labels6a guesses6a comes6a sizes6a words6a told6a behind6a shares6a start6a move6a show6a signs6a many6a bestPath6a nextStart6a nextMove6a nextShow6a thrown6 rows6 labels6 guesses6 comes6 sizes6 words6 up6 down6 weightAbove6 weightBelow6 told6 length6 behind6 shares6 over6 start6 move6 show6 signs6 many6 bestPath6 nextStart6z nextMove6z nextShow6z) := by
  refine entV (cc := cX6_countPath) (maxL := 5) (by decide) rfl (Nat.le_of_ble_eq_true rfl) ?_
  intro p e s m args below meth c ls A Q X hret
  obtain ⟨hx, hb, hml, hts, hown, hK, hA, hP, hD, hS, hl, hnm⟩ := X
  have hown : s.vm.findClass RX6 = some m.cls := hown
  have hl : lv_has ls 5 [(0, .ref h6), (1, .int i1), (2, .int i2)] := hl
  have hw1 : (Cond.fieldLink RX6 54 "CountLearnersModel" "many" "[I").before args s = true := hts _ (by decide +kernel)
  have hinX6 : ∀ w ∈ wsX60, w ∈ wsX6_countPath := by decide +kernel
  have hw3 : (Cond.fieldLink RX6 63 "CountLearnersModel" "nextMove" "[I").before args s = true := hts _ (by decide +kernel)
  have hw4 : (Cond.fieldLink RX6 66 "CountLearnersModel" "nextShow" "[I").before args s = true := hts _ (by decide +kernel)
  have hw5 : (Cond.fieldLink RX6 51 "CountLearnersModel" "signs" "[I").before args s = true := hts _ (by decide +kernel)
  have hw6 : (Cond.fieldLink RX6 60 "CountLearnersModel" "nextStart" "[I").before args s = true := hts _ (by decide +kernel)
  unfold f_X6_countPath at h
  refine lv_iconst (v := 0) hx hb dX6_countPath_0 (by decide) ?_
  refine lv_topi (fun x3_1 ex3_1 => ?_)
  have h := nm_s h x3_1 ex3_1
  refine lv_istore_n (lv' := [(3, .int x3_1), (0, .ref h6), (1, .int i1), (2, .int i2)]) hx hb dX6_countPath_1 rfl hl (by decide) rfl (fun ls hl => ?_)
  have L2 : ∀ (n : Nat) (y3_2 : Int32) (nextStart6_3 : Nat → Int32) (nextMove6_4 : Nat → Int32) (nextShow6_5 : Nat → Int32) (z3_6 : Int32) (nextStart6_7 : Nat → Int32) (nextMove6_8 : Nat → Int32) (nextShow6_9 : Nat → Int32), f_X6_countPath_L2 i1 i2 signs6 many6 n y3_2 nextStart6_3 nextMove6_4 nextShow6_5 = some (z3_6, nextStart6_7, nextMove6_8, nextShow6_9) → ∀ (H : Heap) (locs : List Loc) (ls : Array Slot), va_P D vwK (w6 cI cJ h6 labels6a guesses6a comes6a sizes6a words6a told6a behind6a shares6a start6a move6a show6a signs6a many6a bestPath6a nextStart6a nextMove6a nextShow6a thrown6 rows6 labels6 guesses6 comes6 sizes6 words6 up6 down6 weightAbove6 weightBelow6 told6 length6 behind6 shares6 over6 start6 move6 show6 signs6 many6 bestPath6 nextStart6_3 nextMove6_4 nextShow6_5) H → va_D A (w6 cI cJ h6 labels6a guesses6a comes6a sizes6a words6a told6a behind6a shares6a start6a move6a show6a signs6a many6a bestPath6a nextStart6a nextMove6a nextShow6a thrown6 rows6 labels6 guesses6 comes6 sizes6 words6 up6 down6 weightAbove6 weightBelow6 told6 length6 behind6 shares6 over6 start6 move6 show6 signs6 many6 bestPath6 nextStart6_3 nextMove6_4 nextShow6_5) → va_S A s.heap H locs → lv_has ls 5 [(3, .int y3_2), (0, .ref h6), (1, .int i1), (2, .int i2)] → (∀ (H : Heap) (locs : List Loc) (ls : Array Slot), va_P D vwK (w6 cI cJ h6 labels6a guesses6a comes6a sizes6a words6a told6a behind6a shares6a start6a move6a show6a signs6a many6a bestPath6a nextStart6a nextMove6a nextShow6a thrown6 rows6 labels6 guesses6 comes6 sizes6 words6 up6 down6 weightAbove6 weightBelow6 told6 length6 behind6 shares6 over6 start6 move6 show6 signs6 many6 bestPath6 nextStart6_7 nextMove6_8 nextShow6_9) H → va_D A (w6 cI cJ h6 labels6a guesses6a comes6a sizes6a words6a told6a behind6a shares6a start6a move6a show6a signs6a many6a bestPath6a nextStart6a nextMove6a nextShow6a thrown6 rows6 labels6 guesses6 comes6 sizes6 words6 up6 down6 weightAbove6 weightBelow6 told6 length6 behind6 shares6 over6 start6 move6 show6 signs6 many6 bestPath6 nextStart6_7 nextMove6_8 nextShow6_9) → va_S A s.heap H locs → lv_has ls 5 [] → W p l e (rmOf 1 23) s m args below meth c H locs 0 0 Q (F0 m 92 ls [])) → W p l e (rmOf 1 23) s m args below meth c H locs 0 0 Q (F0 m 2 ls []) := by
    intro n
    induction n with
    | zero => intro y3_2 nextStart6_3 nextMove6_4 nextShow6_5 z3_6 nextStart6_7 nextMove6_8 nextShow6_9 h; rw [f_X6_countPath_L2.eq_1] at h; cases h
    | succ n ih =>
      intro y3_2 nextStart6_3 nextMove6_4 nextShow6_5 z3_6 nextStart6_7 nextMove6_8 nextShow6_9 h H locs ls hP hD hS hl K
      rw [f_X6_countPath_L2.eq_2] at h
      refine lv_iload_n hx hb dX6_countPath_2 rfl (lv_at hl 0 rfl) ?_
      refine lv_aload_n hx hb dX6_countPath_3 rfl (lv_at hl 1 rfl) ?_
      refine va_get (D := D) (ci := 5) (v := .ref many6a) (C := RX6) (T := TX6) (N := 25) hx hb hts hinX6 hown hK.1 hP 0 rfl rfl 20 (by decide) hw1 (fun _ h9 => h9) rfl dX6_countPath_4 ?_
      refine lv_iload_n hx hb dX6_countPath_7 rfl (lv_at hl 3 rfl) ?_
      obtain ⟨hi_10, h⟩ := gA_s h
      refine va_iald hx hb hK.1 hP 13 0 rfl rfl hi_10 dX6_countPath_8 ?_
      refine lv_topi (fun v_11 ev_11 => ?_)
      have h := h v_11 ev_11
      refine lv_icmp_ge (tgt := 92) hx hb dX6_countPath_9 (by decide) (fun c_12 => ?_) (fun c_12 => ?_)
      · have h := it_p c_12 h
        cases h
        exact K _ _ _ hP hD hS (lv_sub hl [] rfl)
      · have h := it_n c_12 h
        refine lv_aload_n hx hb dX6_countPath_12 rfl (lv_at hl 1 rfl) ?_
        refine lv_iload_n hx hb dX6_countPath_13 rfl (lv_at hl 2 rfl) ?_
        refine lv_iload_n hx hb dX6_countPath_14 rfl (lv_at hl 3 rfl) ?_
        refine lv_iload_n hx hb dX6_countPath_15 rfl (lv_at hl 0 rfl) ?_
        obtain ⟨r_13, hc_14, h⟩ := bd_s h
        refine callTi (As := [.int i1, .int i2, .int y3_2]) (rest := []) ⟨hx, hb, hml, hown, hts⟩ (c_X6_stateOf l D cI cJ h6 labels6a guesses6a comes6a sizes6a words6a told6a behind6a shares6a start6a move6a show6a signs6a many6a bestPath6a nextStart6a nextMove6a nextShow6a thrown6 rows6 labels6 guesses6 comes6 sizes6 words6 up6 down6 weightAbove6 weightBelow6 told6 length6 behind6 shares6 over6 start6 move6 show6 signs6 many6 bestPath6 nextStart6_3 nextMove6_4 nextShow6_5 i1 i2 y3_2 r_13 hc_14) (cwV 3 hts gX6_countPath_X6_stateOf rfl rfl rfl (by decide +kernel) ⟨Nat.le_of_ble_eq_true rfl, Nat.le_of_ble_eq_true rfl⟩) hK hP hD hS hA 0 5 rfl rfl rfl rfl hl.1 rfl (Nat.le_of_ble_eq_true rfl) dX6_countPath_16 ⟨Nat.zero_le _, Nat.zero_le _⟩ (fun H locs hP hD hS => ?_)
        refine lv_topi (fun x4_15 ex4_15 => ?_)
        have h := nm_s h x4_15 ex4_15
        refine lv_istore (lv' := [(4, .int x4_15), (3, .int y3_2), (0, .ref h6), (1, .int i1), (2, .int i2)]) hx hb dX6_countPath_19 hl (by decide) rfl (fun ls hl => ?_)
        refine lv_iload_n hx hb dX6_countPath_21 rfl (lv_at hl 1 rfl) ?_
        refine lv_if_ne (tgt := 39) hx hb dX6_countPath_22 (by decide) (fun c_16 => ?_) (fun c_16 => ?_)
        · have h := it_n c_16 h
          refine lv_aload_n hx hb dX6_countPath_39 rfl (lv_at hl 2 rfl) ?_
          refine va_get (D := D) (ci := 5) (v := .ref nextMove6a) (C := RX6) (T := TX6) (N := 25) hx hb hts hinX6 hown hK.1 hP 0 rfl rfl 23 (by decide) hw3 (fun _ h9 => h9) rfl dX6_countPath_40 ?_
          refine lv_iconst (v := 4) hx hb dX6_countPath_43 (by decide) ?_
          refine lv_aload_n hx hb dX6_countPath_44 rfl (lv_at hl 2 rfl) ?_
          refine lv_iload_n hx hb dX6_countPath_45 rfl (lv_at hl 3 rfl) ?_
          refine lv_iload_n hx hb dX6_countPath_46 rfl (lv_at hl 4 rfl) ?_
          refine lv_iload_n hx hb dX6_countPath_47 rfl (lv_at hl 1 rfl) ?_
          refine lv_iconst (v := 1) hx hb dX6_countPath_48 (by decide) ?_
          refine lv_isub hx hb dX6_countPath_49 ?_
          obtain ⟨r_17, hc_18, h⟩ := bd_s h
          refine callTi (As := [.int i1, .int i2, .int (y3_2 - 1)]) (rest := [.int 4, .ref nextMove6a]) ⟨hx, hb, hml, hown, hts⟩ (c_X6_stateOf l D cI cJ h6 labels6a guesses6a comes6a sizes6a words6a told6a behind6a shares6a start6a move6a show6a signs6a many6a bestPath6a nextStart6a nextMove6a nextShow6a thrown6 rows6 labels6 guesses6 comes6 sizes6 words6 up6 down6 weightAbove6 weightBelow6 told6 length6 behind6 shares6 over6 start6 move6 show6 signs6 many6 bestPath6 nextStart6_3 nextMove6_4 nextShow6_5 i1 i2 (y3_2 - 1) r_17 hc_18) (cwV 3 hts gX6_countPath_X6_stateOf rfl rfl rfl (by decide +kernel) ⟨Nat.le_of_ble_eq_true rfl, Nat.le_of_ble_eq_true rfl⟩) hK hP hD hS hA 0 5 rfl rfl rfl rfl hl.1 rfl (Nat.le_of_ble_eq_true rfl) dX6_countPath_50 ⟨Nat.zero_le _, Nat.zero_le _⟩ (fun H locs hP hD hS => ?_)
          refine lv_imul hx hb dX6_countPath_53 ?_
          refine lv_iload hx hb dX6_countPath_54 (lv_at hl 0 rfl) ?_
          refine lv_iadd hx hb dX6_countPath_56 ?_
          refine lv_dup2_11 hx hb dX6_countPath_57 rfl rfl ?_
          obtain ⟨hi_19, h⟩ := gA_s h
          refine va_iald hx hb hK.1 hP 16 0 rfl rfl hi_19 dX6_countPath_58 ?_
          refine lv_topi (fun v_20 ev_20 => ?_)
          have h := h v_20 ev_20
          refine lv_iconst (v := 1) hx hb dX6_countPath_59 (by decide) ?_
          refine lv_iadd hx hb dX6_countPath_60 ?_
          obtain ⟨hi_21, h⟩ := sI_s h
          refine va_iast hx hb hK.1 hP hD hS 16 0 rfl rfl hi_21 dX6_countPath_61 (fun H locs hP hD hS => ?_)
          obtain ⟨nextMove6_22, enextMove6_22⟩ : ∃ z, z = upd nextMove6_4 (Int32.toNatClampNeg ((4 * r_17) + x4_15)) (v_20 + 1) := ⟨_, rfl⟩
          have h := h nextMove6_22 enextMove6_22
          rw [← enextMove6_22] at hP hD
          have hP : va_P D vwK (w6 cI cJ h6 labels6a guesses6a comes6a sizes6a words6a told6a behind6a shares6a start6a move6a show6a signs6a many6a bestPath6a nextStart6a nextMove6a nextShow6a thrown6 rows6 labels6 guesses6 comes6 sizes6 words6 up6 down6 weightAbove6 weightBelow6 told6 length6 behind6 shares6 over6 start6 move6 show6 signs6 many6 bestPath6 nextStart6_3 nextMove6_22 nextShow6_5) H := hP
          have hD : va_D A (w6 cI cJ h6 labels6a guesses6a comes6a sizes6a words6a told6a behind6a shares6a start6a move6a show6a signs6a many6a bestPath6a nextStart6a nextMove6a nextShow6a thrown6 rows6 labels6 guesses6 comes6 sizes6 words6 up6 down6 weightAbove6 weightBelow6 told6 length6 behind6 shares6 over6 start6 move6 show6 signs6 many6 bestPath6 nextStart6_3 nextMove6_22 nextShow6_5) := hD
          refine lv_aload_n hx hb dX6_countPath_62 rfl (lv_at hl 2 rfl) ?_
          refine va_get (D := D) (ci := 5) (v := .ref nextShow6a) (C := RX6) (T := TX6) (N := 25) hx hb hts hinX6 hown hK.1 hP 0 rfl rfl 24 (by decide) hw4 (fun _ h9 => h9) rfl dX6_countPath_63 ?_
          refine lv_iconst (v := 4) hx hb dX6_countPath_66 (by decide) ?_
          refine lv_iload hx hb dX6_countPath_67 (lv_at hl 0 rfl) ?_
          refine lv_imul hx hb dX6_countPath_69 ?_
          refine lv_aload_n hx hb dX6_countPath_70 rfl (lv_at hl 2 rfl) ?_
          refine va_get (D := D) (ci := 5) (v := .ref signs6a) (C := RX6) (T := TX6) (N := 25) hx hb hts hinX6 hown hK.1 hP 0 rfl rfl 19 (by decide) hw5 (fun _ h9 => h9) rfl dX6_countPath_71 ?_
          refine lv_iconst (v := 5) hx hb dX6_countPath_74 (by decide) ?_
          refine lv_iload_n hx hb dX6_countPath_75 rfl (lv_at hl 4 rfl) ?_
          refine lv_imul hx hb dX6_countPath_76 ?_
          refine lv_iload_n hx hb dX6_countPath_77 rfl (lv_at hl 1 rfl) ?_
          refine lv_iadd hx hb dX6_countPath_78 ?_
          obtain ⟨hi_23, h⟩ := gA_s h
          refine va_iald hx hb hK.1 hP 12 0 rfl rfl hi_23 dX6_countPath_79 ?_
          refine lv_topi (fun v_24 ev_24 => ?_)
          have h := h v_24 ev_24
          refine lv_iadd hx hb dX6_countPath_80 ?_
          refine lv_dup2_11 hx hb dX6_countPath_81 rfl rfl ?_
          obtain ⟨hi_25, h⟩ := gA_s h
          refine va_iald hx hb hK.1 hP 17 0 rfl rfl hi_25 dX6_countPath_82 ?_
          refine lv_topi (fun v_26 ev_26 => ?_)
          have h := h v_26 ev_26
          refine lv_iconst (v := 1) hx hb dX6_countPath_83 (by decide) ?_
          refine lv_iadd hx hb dX6_countPath_84 ?_
          obtain ⟨hi_27, h⟩ := sI_s h
          refine va_iast hx hb hK.1 hP hD hS 17 0 rfl rfl hi_27 dX6_countPath_85 (fun H locs hP hD hS => ?_)
          obtain ⟨nextShow6_28, enextShow6_28⟩ : ∃ z, z = upd nextShow6_5 (Int32.toNatClampNeg ((4 * x4_15) + v_24)) (v_26 + 1) := ⟨_, rfl⟩
          have h := h nextShow6_28 enextShow6_28
          rw [← enextShow6_28] at hP hD
          have hP : va_P D vwK (w6 cI cJ h6 labels6a guesses6a comes6a sizes6a words6a told6a behind6a shares6a start6a move6a show6a signs6a many6a bestPath6a nextStart6a nextMove6a nextShow6a thrown6 rows6 labels6 guesses6 comes6 sizes6 words6 up6 down6 weightAbove6 weightBelow6 told6 length6 behind6 shares6 over6 start6 move6 show6 signs6 many6 bestPath6 nextStart6_3 nextMove6_22 nextShow6_28) H := hP
          have hD : va_D A (w6 cI cJ h6 labels6a guesses6a comes6a sizes6a words6a told6a behind6a shares6a start6a move6a show6a signs6a many6a bestPath6a nextStart6a nextMove6a nextShow6a thrown6 rows6 labels6 guesses6 comes6 sizes6 words6 up6 down6 weightAbove6 weightBelow6 told6 length6 behind6 shares6 over6 start6 move6 show6 signs6 many6 bestPath6 nextStart6_3 nextMove6_22 nextShow6_28) := hD
          obtain ⟨x3_29, ex3_29⟩ : ∃ z : Int32, z = y3_2 + 1 := ⟨_, rfl⟩
          have h := nm_s h x3_29 ex3_29
          refine lv_iinc (v := x3_29) (lv' := [(3, .int x3_29), (4, .int x4_15), (0, .ref h6), (1, .int i1), (2, .int i2)]) hx hb dX6_countPath_86 hl (k := 1) rfl (by rw [ex3_29]; rfl) (by decide) rfl (fun ls hl => ?_)
          refine lv_goto (tgt := 2) hx hb dX6_countPath_89 (by decide) ?_
          exact ih _ _ _ _ _ _ _ _ h _ _ _ hP hD hS (lv_sub hl [0, 2, 3, 4] rfl) K
        · have h := it_p c_16 h
          refine lv_aload_n hx hb dX6_countPath_25 rfl (lv_at hl 2 rfl) ?_
          refine va_get (D := D) (ci := 5) (v := .ref nextStart6a) (C := RX6) (T := TX6) (N := 25) hx hb hts hinX6 hown hK.1 hP 0 rfl rfl 22 (by decide) hw6 (fun _ h9 => h9) rfl dX6_countPath_26 ?_
          refine lv_iload hx hb dX6_countPath_29 (lv_at hl 0 rfl) ?_
          refine lv_dup2_11 hx hb dX6_countPath_31 rfl rfl ?_
          obtain ⟨hi_30, h⟩ := gA_s h
          refine va_iald hx hb hK.1 hP 15 0 rfl rfl hi_30 dX6_countPath_32 ?_
          refine lv_topi (fun v_31 ev_31 => ?_)
          have h := h v_31 ev_31
          refine lv_iconst (v := 1) hx hb dX6_countPath_33 (by decide) ?_
          refine lv_iadd hx hb dX6_countPath_34 ?_
          obtain ⟨hi_32, h⟩ := sI_s h
          refine va_iast hx hb hK.1 hP hD hS 15 0 rfl rfl hi_32 dX6_countPath_35 (fun H locs hP hD hS => ?_)
          obtain ⟨nextStart6_33, enextStart6_33⟩ : ∃ z, z = upd nextStart6_3 (Int32.toNatClampNeg x4_15) (v_31 + 1) := ⟨_, rfl⟩
          have h := h nextStart6_33 enextStart6_33
          rw [← enextStart6_33] at hP hD
          have hP : va_P D vwK (w6 cI cJ h6 labels6a guesses6a comes6a sizes6a words6a told6a behind6a shares6a start6a move6a show6a signs6a many6a bestPath6a nextStart6a nextMove6a nextShow6a thrown6 rows6 labels6 guesses6 comes6 sizes6 words6 up6 down6 weightAbove6 weightBelow6 told6 length6 behind6 shares6 over6 start6 move6 show6 signs6 many6 bestPath6 nextStart6_33 nextMove6_4 nextShow6_5) H := hP
          have hD : va_D A (w6 cI cJ h6 labels6a guesses6a comes6a sizes6a words6a told6a behind6a shares6a start6a move6a show6a signs6a many6a bestPath6a nextStart6a nextMove6a nextShow6a thrown6 rows6 labels6 guesses6 comes6 sizes6 words6 up6 down6 weightAbove6 weightBelow6 told6 length6 behind6 shares6 over6 start6 move6 show6 signs6 many6 bestPath6 nextStart6_33 nextMove6_4 nextShow6_5) := hD
          refine lv_goto (tgt := 62) hx hb dX6_countPath_36 (by decide) ?_
          refine lv_aload_n hx hb dX6_countPath_62 rfl (lv_at hl 2 rfl) ?_
          refine va_get (D := D) (ci := 5) (v := .ref nextShow6a) (C := RX6) (T := TX6) (N := 25) hx hb hts hinX6 hown hK.1 hP 0 rfl rfl 24 (by decide) hw4 (fun _ h9 => h9) rfl dX6_countPath_63 ?_
          refine lv_iconst (v := 4) hx hb dX6_countPath_66 (by decide) ?_
          refine lv_iload hx hb dX6_countPath_67 (lv_at hl 0 rfl) ?_
          refine lv_imul hx hb dX6_countPath_69 ?_
          refine lv_aload_n hx hb dX6_countPath_70 rfl (lv_at hl 2 rfl) ?_
          refine va_get (D := D) (ci := 5) (v := .ref signs6a) (C := RX6) (T := TX6) (N := 25) hx hb hts hinX6 hown hK.1 hP 0 rfl rfl 19 (by decide) hw5 (fun _ h9 => h9) rfl dX6_countPath_71 ?_
          refine lv_iconst (v := 5) hx hb dX6_countPath_74 (by decide) ?_
          refine lv_iload_n hx hb dX6_countPath_75 rfl (lv_at hl 4 rfl) ?_
          refine lv_imul hx hb dX6_countPath_76 ?_
          refine lv_iload_n hx hb dX6_countPath_77 rfl (lv_at hl 1 rfl) ?_
          refine lv_iadd hx hb dX6_countPath_78 ?_
          obtain ⟨hi_34, h⟩ := gA_s h
          refine va_iald hx hb hK.1 hP 12 0 rfl rfl hi_34 dX6_countPath_79 ?_
          refine lv_topi (fun v_35 ev_35 => ?_)
          have h := h v_35 ev_35
          refine lv_iadd hx hb dX6_countPath_80 ?_
          refine lv_dup2_11 hx hb dX6_countPath_81 rfl rfl ?_
          obtain ⟨hi_36, h⟩ := gA_s h
          refine va_iald hx hb hK.1 hP 17 0 rfl rfl hi_36 dX6_countPath_82 ?_
          refine lv_topi (fun v_37 ev_37 => ?_)
          have h := h v_37 ev_37
          refine lv_iconst (v := 1) hx hb dX6_countPath_83 (by decide) ?_
          refine lv_iadd hx hb dX6_countPath_84 ?_
          obtain ⟨hi_38, h⟩ := sI_s h
          refine va_iast hx hb hK.1 hP hD hS 17 0 rfl rfl hi_38 dX6_countPath_85 (fun H locs hP hD hS => ?_)
          obtain ⟨nextShow6_39, enextShow6_39⟩ : ∃ z, z = upd nextShow6_5 (Int32.toNatClampNeg ((4 * x4_15) + v_35)) (v_37 + 1) := ⟨_, rfl⟩
          have h := h nextShow6_39 enextShow6_39
          rw [← enextShow6_39] at hP hD
          have hP : va_P D vwK (w6 cI cJ h6 labels6a guesses6a comes6a sizes6a words6a told6a behind6a shares6a start6a move6a show6a signs6a many6a bestPath6a nextStart6a nextMove6a nextShow6a thrown6 rows6 labels6 guesses6 comes6 sizes6 words6 up6 down6 weightAbove6 weightBelow6 told6 length6 behind6 shares6 over6 start6 move6 show6 signs6 many6 bestPath6 nextStart6_33 nextMove6_4 nextShow6_39) H := hP
          have hD : va_D A (w6 cI cJ h6 labels6a guesses6a comes6a sizes6a words6a told6a behind6a shares6a start6a move6a show6a signs6a many6a bestPath6a nextStart6a nextMove6a nextShow6a thrown6 rows6 labels6 guesses6 comes6 sizes6 words6 up6 down6 weightAbove6 weightBelow6 told6 length6 behind6 shares6 over6 start6 move6 show6 signs6 many6 bestPath6 nextStart6_33 nextMove6_4 nextShow6_39) := hD
          obtain ⟨x3_40, ex3_40⟩ : ∃ z : Int32, z = y3_2 + 1 := ⟨_, rfl⟩
          have h := nm_s h x3_40 ex3_40
          refine lv_iinc (v := x3_40) (lv' := [(3, .int x3_40), (4, .int x4_15), (0, .ref h6), (1, .int i1), (2, .int i2)]) hx hb dX6_countPath_86 hl (k := 1) rfl (by rw [ex3_40]; rfl) (by decide) rfl (fun ls hl => ?_)
          refine lv_goto (tgt := 2) hx hb dX6_countPath_89 (by decide) ?_
          exact ih _ _ _ _ _ _ _ _ h _ _ _ hP hD hS (lv_sub hl [0, 2, 3, 4] rfl) K
  obtain ⟨⟨z3_41, nextStart6_42, nextMove6_43, nextShow6_44⟩, hl_45, h⟩ := bd_s h
  refine L2 FU x3_1 nextStart6 nextMove6 nextShow6 _ _ _ _ hl_45 _ _ _ hP hD hS (lv_sub hl [0, 1, 2, 3] rfl) (fun H locs ls hP hD hS hl => ?_)
  cases h
  exact hret _ _ _ _ hP hD hS dX6_countPath_92
def f_X6_learnt_L2 : Nat → Int32 → (Nat → Int32) → (Nat → Int32) → (Nat → Int32) → Option (Int32 × (Nat → Int32) × (Nat → Int32) × (Nat → Int32))
  | 0, _, _, _, _ => none
  | n + 1, y1_2, nextStart6_3, nextMove6_4, nextShow6_5 =>
  if 16 ≤ y1_2 then
    some (y1_2, nextStart6_3, nextMove6_4, nextShow6_5)
  else
    dz 4 <|
    sI 4 nextStart6_3 (y1_2 - y1_2 / 4 * 4) 1 fun nextStart6_13 =>
    sI 16 nextMove6_4 y1_2 1 fun nextMove6_15 =>
    sI 16 nextShow6_5 y1_2 1 fun nextShow6_17 =>
    nm (α := Int32) (y1_2 + 1) fun x1_18 =>
    f_X6_learnt_L2 n x1_18 nextStart6_13 nextMove6_15 nextShow6_17
def f_X6_learnt_L39 (start6 : Nat → Int32) (move6 : Nat → Int32) (show6 : Nat → Int32) (signs6 : Nat → Int32) (many6 : Nat → Int32) : Nat → Int32 → (Nat → Int32) → (Nat → Int32) → (Nat → Int32) → (Nat → Int32) → Option (Int32 × (Nat → Int32) × (Nat → Int32) × (Nat → Int32) × (Nat → Int32))
  | 0, _, _, _, _, _ => none
  | n + 1, y1_25, bestPath6_26, nextStart6_27, nextMove6_28, nextShow6_29 =>
  if 4 ≤ y1_25 then
    some (y1_25, bestPath6_26, nextStart6_27, nextMove6_28, nextShow6_29)
  else
    Option.bind (f_X6_bestPathOf y1_25 start6 move6 show6 signs6 many6) fun r_36 =>
    sI 4 bestPath6_26 y1_25 r_36 fun bestPath6_39 =>
    gA 4 bestPath6_39 y1_25 fun v_41 =>
    if v_41 = (-1) then
      nm (α := Int32) (y1_25 + 1) fun x1_43 =>
      f_X6_learnt_L39 start6 move6 show6 signs6 many6 n x1_43 bestPath6_39 nextStart6_27 nextMove6_28 nextShow6_29
    else
      gA 4 bestPath6_39 y1_25 fun v_45 =>
      Option.bind (f_X6_countPath v_45 y1_25 signs6 many6 nextStart6_27 nextMove6_28 nextShow6_29) fun (nextStart6_46, nextMove6_47, nextShow6_48) =>
      nm (α := Int32) (y1_25 + 1) fun x1_50 =>
      f_X6_learnt_L39 start6 move6 show6 signs6 many6 n x1_50 bestPath6_39 nextStart6_46 nextMove6_47 nextShow6_48
def f_X6_learnt_L86 (start6 : Nat → Int32) (move6 : Nat → Int32) (show6 : Nat → Int32) (nextStart6_53 : Nat → Int32) (nextMove6_54 : Nat → Int32) (nextShow6_55 : Nat → Int32) : Nat → Int32 → Int32 → Option (Int32 × Int32)
  | 0, _, _ => none
  | n + 1, y2_59, y1_60 =>
  if 16 ≤ y2_59 then
    some (y2_59, y1_60)
  else
    if y1_60 = 0 then
      dz 4 <|
      gA 4 start6 (y2_59 - y2_59 / 4 * 4) fun v_69 =>
      dz 4 <|
      gA 4 nextStart6_53 (y2_59 - y2_59 / 4 * 4) fun v_72 =>
      if v_69 = v_72 then
        gA 16 move6 y2_59 fun v_77 =>
        gA 16 nextMove6_54 y2_59 fun v_79 =>
        if v_77 = v_79 then
          gA 16 show6 y2_59 fun v_84 =>
          gA 16 nextShow6_55 y2_59 fun v_86 =>
          if v_84 = v_86 then
            nm (α := Int32) (0) fun x1_88 =>
            nm (α := Int32) (y2_59 + 1) fun x2_89 =>
            f_X6_learnt_L86 start6 move6 show6 nextStart6_53 nextMove6_54 nextShow6_55 n x2_89 x1_88
          else
            nm (α := Int32) (1) fun x1_90 =>
            nm (α := Int32) (y2_59 + 1) fun x2_91 =>
            f_X6_learnt_L86 start6 move6 show6 nextStart6_53 nextMove6_54 nextShow6_55 n x2_91 x1_90
        else
          nm (α := Int32) (1) fun x1_81 =>
          nm (α := Int32) (y2_59 + 1) fun x2_82 =>
          f_X6_learnt_L86 start6 move6 show6 nextStart6_53 nextMove6_54 nextShow6_55 n x2_82 x1_81
      else
        nm (α := Int32) (1) fun x1_74 =>
        nm (α := Int32) (y2_59 + 1) fun x2_75 =>
        f_X6_learnt_L86 start6 move6 show6 nextStart6_53 nextMove6_54 nextShow6_55 n x2_75 x1_74
    else
      nm (α := Int32) (1) fun x1_65 =>
      nm (α := Int32) (y2_59 + 1) fun x2_66 =>
      f_X6_learnt_L86 start6 move6 show6 nextStart6_53 nextMove6_54 nextShow6_55 n x2_66 x1_65
def f_X6_learnt_L159 (nextStart6_53 : Nat → Int32) (nextMove6_54 : Nat → Int32) (nextShow6_55 : Nat → Int32) : Nat → Int32 → (Nat → Int32) → (Nat → Int32) → (Nat → Int32) → Option (Int32 × (Nat → Int32) × (Nat → Int32) × (Nat → Int32))
  | 0, _, _, _, _ => none
  | n + 1, y2_96, start6_97, move6_98, show6_99 =>
  if 16 ≤ y2_96 then
    some (y2_96, start6_97, move6_98, show6_99)
  else
    dz 4 <|
    dz 4 <|
    gA 4 nextStart6_53 (y2_96 - y2_96 / 4 * 4) fun v_108 =>
    sI 4 start6_97 (y2_96 - y2_96 / 4 * 4) v_108 fun start6_110 =>
    gA 16 nextMove6_54 y2_96 fun v_112 =>
    sI 16 move6_98 y2_96 v_112 fun move6_114 =>
    gA 16 nextShow6_55 y2_96 fun v_116 =>
    sI 16 show6_99 y2_96 v_116 fun show6_118 =>
    nm (α := Int32) (y2_96 + 1) fun x2_119 =>
    f_X6_learnt_L159 nextStart6_53 nextMove6_54 nextShow6_55 n x2_119 start6_110 move6_114 show6_118
def f_X6_learnt (start6 : Nat → Int32) (move6 : Nat → Int32) (show6 : Nat → Int32) (signs6 : Nat → Int32) (many6 : Nat → Int32) (bestPath6 : Nat → Int32) (nextStart6 : Nat → Int32) (nextMove6 : Nat → Int32) (nextShow6 : Nat → Int32) : Option (Int32 × (Nat → Int32) × (Nat → Int32) × (Nat → Int32) × (Nat → Int32) × (Nat → Int32) × (Nat → Int32) × (Nat → Int32)) :=
  nm (α := Int32) (0) fun x1_1 =>
  Option.bind (f_X6_learnt_L2 FU x1_1 nextStart6 nextMove6 nextShow6) fun (z1_19, nextStart6_20, nextMove6_21, nextShow6_22) =>
  nm (α := Int32) (0) fun x1_24 =>
  Option.bind (f_X6_learnt_L39 start6 move6 show6 signs6 many6 FU x1_24 bestPath6 nextStart6_20 nextMove6_21 nextShow6_22) fun (z1_51, bestPath6_52, nextStart6_53, nextMove6_54, nextShow6_55) =>
  nm (α := Int32) (0) fun x1_57 =>
  nm (α := Int32) (0) fun x2_58 =>
  Option.bind (f_X6_learnt_L86 start6 move6 show6 nextStart6_53 nextMove6_54 nextShow6_55 FU x2_58 x1_57) fun (z2_92, z1_93) =>
  nm (α := Int32) (0) fun x2_95 =>
  Option.bind (f_X6_learnt_L159 nextStart6_53 nextMove6_54 nextShow6_55 FU x2_95 start6 move6 show6) fun (z2_120, start6_121, move6_122, show6_123) =>
  bz z1_93 <|
  some (z1_93, start6_121, move6_122, show6_123, bestPath6_52, nextStart6_53, nextMove6_54, nextShow6_55)
set_option maxHeartbeats 4000000 in
set_option maxRecDepth 100000 in
theorem c_X6_learnt (l : Launch) (D : va_G) (cI cJ : ClassId) (h6 labels6a guesses6a comes6a sizes6a words6a told6a behind6a shares6a start6a move6a show6a signs6a many6a bestPath6a nextStart6a nextMove6a nextShow6a : Nat) (thrown6 : Int32) (rows6 : Int32) (labels6 : Nat → Int32) (guesses6 : Nat → Int32) (comes6 : Nat → Int32) (sizes6 : Nat → Int32) (words6 : Nat → Int32) (up6 : Int32) (down6 : Int32) (weightAbove6 : Int64) (weightBelow6 : Int64) (told6 : Nat → Int32) (length6 : Int32) (behind6 : Nat → Int32) (shares6 : Nat → Int64) (over6 : Int64) (start6 : Nat → Int32) (move6 : Nat → Int32) (show6 : Nat → Int32) (signs6 : Nat → Int32) (many6 : Nat → Int32) (bestPath6 : Nat → Int32) (nextStart6 : Nat → Int32) (nextMove6 : Nat → Int32) (nextShow6 : Nat → Int32) (ret9 : Int32) (start6z : Nat → Int32) (move6z : Nat → Int32) (show6z : Nat → Int32) (bestPath6z : Nat → Int32) (nextStart6z : Nat → Int32) (nextMove6z : Nat → Int32) (nextShow6z : Nat → Int32) (h : f_X6_learnt start6 move6 show6 signs6 many6 bestPath6 nextStart6 nextMove6 nextShow6 = some (ret9, start6z, move6z, show6z, bestPath6z, nextStart6z, nextMove6z, nextShow6z)) : CI l D cI cJ yX6_learnt wsX6_learnt 3 76 [.ref h6] (w6 cI cJ h6 labels6a guesses6a comes6a sizes6a words6a told6a behind6a shares6a start6a move6a show6a signs6a many6a bestPath6a nextStart6a nextMove6a nextShow6a thrown6 rows6 labels6 guesses6 comes6 sizes6 words6 up6 down6 weightAbove6 weightBelow6 told6 length6 behind6 shares6 over6 start6 move6 show6 signs6 many6 bestPath6 nextStart6 nextMove6 nextShow6) (w6 cI cJ h6 labels6a guesses6a comes6a sizes6a words6a told6a behind6a shares6a start6a move6a show6a signs6a many6a bestPath6a nextStart6a nextMove6a nextShow6a thrown6 rows6 labels6 guesses6 comes6 sizes6 words6 up6 down6 weightAbove6 weightBelow6 told6 length6 behind6 shares6 over6 start6z move6z show6z signs6 many6 bestPath6z nextStart6z nextMove6z nextShow6z) ret9 := by
  refine entZ (cc := cX6_learnt) (maxL := 3) (by decide) rfl (Nat.le_of_ble_eq_true rfl) ?_
  intro p e s m args below meth c ls A Q X hret
  obtain ⟨hx, hb, hml, hts, hown, hK, hA, hP, hD, hS, hl, hnm⟩ := X
  have hown : s.vm.findClass RX6 = some m.cls := hown
  have hl : lv_has ls 3 [(0, .ref h6)] := hl
  have hw1 : (Cond.fieldLink RX6 60 "CountLearnersModel" "nextStart" "[I").before args s = true := hts _ (by decide +kernel)
  have hinX6 : ∀ w ∈ wsX60, w ∈ wsX6_learnt := by decide +kernel
  have hw3 : (Cond.fieldLink RX6 63 "CountLearnersModel" "nextMove" "[I").before args s = true := hts _ (by decide +kernel)
  have hw4 : (Cond.fieldLink RX6 66 "CountLearnersModel" "nextShow" "[I").before args s = true := hts _ (by decide +kernel)
  have hw5 : (Cond.fieldLink RX6 57 "CountLearnersModel" "bestPath" "[I").before args s = true := hts _ (by decide +kernel)
  have hw6 : (Cond.fieldLink RX6 42 "CountLearnersModel" "start" "[I").before args s = true := hts _ (by decide +kernel)
  have hw7 : (Cond.fieldLink RX6 45 "CountLearnersModel" "move" "[I").before args s = true := hts _ (by decide +kernel)
  have hw8 : (Cond.fieldLink RX6 48 "CountLearnersModel" "show" "[I").before args s = true := hts _ (by decide +kernel)
  unfold f_X6_learnt at h
  refine lv_iconst (v := 0) hx hb dX6_learnt_0 (by decide) ?_
  refine lv_topi (fun x1_1 ex1_1 => ?_)
  have h := nm_s h x1_1 ex1_1
  refine lv_istore_n (lv' := [(1, .int x1_1), (0, .ref h6)]) hx hb dX6_learnt_1 rfl hl (by decide) rfl (fun ls hl => ?_)
  have L2 : ∀ (n : Nat) (y1_2 : Int32) (nextStart6_3 : Nat → Int32) (nextMove6_4 : Nat → Int32) (nextShow6_5 : Nat → Int32) (z1_6 : Int32) (nextStart6_7 : Nat → Int32) (nextMove6_8 : Nat → Int32) (nextShow6_9 : Nat → Int32), f_X6_learnt_L2 n y1_2 nextStart6_3 nextMove6_4 nextShow6_5 = some (z1_6, nextStart6_7, nextMove6_8, nextShow6_9) → ∀ (H : Heap) (locs : List Loc) (ls : Array Slot), va_P D vwK (w6 cI cJ h6 labels6a guesses6a comes6a sizes6a words6a told6a behind6a shares6a start6a move6a show6a signs6a many6a bestPath6a nextStart6a nextMove6a nextShow6a thrown6 rows6 labels6 guesses6 comes6 sizes6 words6 up6 down6 weightAbove6 weightBelow6 told6 length6 behind6 shares6 over6 start6 move6 show6 signs6 many6 bestPath6 nextStart6_3 nextMove6_4 nextShow6_5) H → va_D A (w6 cI cJ h6 labels6a guesses6a comes6a sizes6a words6a told6a behind6a shares6a start6a move6a show6a signs6a many6a bestPath6a nextStart6a nextMove6a nextShow6a thrown6 rows6 labels6 guesses6 comes6 sizes6 words6 up6 down6 weightAbove6 weightBelow6 told6 length6 behind6 shares6 over6 start6 move6 show6 signs6 many6 bestPath6 nextStart6_3 nextMove6_4 nextShow6_5) → va_S A s.heap H locs → lv_has ls 3 [(1, .int y1_2), (0, .ref h6)] → (∀ (H : Heap) (locs : List Loc) (ls : Array Slot), va_P D vwK (w6 cI cJ h6 labels6a guesses6a comes6a sizes6a words6a told6a behind6a shares6a start6a move6a show6a signs6a many6a bestPath6a nextStart6a nextMove6a nextShow6a thrown6 rows6 labels6 guesses6 comes6 sizes6 words6 up6 down6 weightAbove6 weightBelow6 told6 length6 behind6 shares6 over6 start6 move6 show6 signs6 many6 bestPath6 nextStart6_7 nextMove6_8 nextShow6_9) H → va_D A (w6 cI cJ h6 labels6a guesses6a comes6a sizes6a words6a told6a behind6a shares6a start6a move6a show6a signs6a many6a bestPath6a nextStart6a nextMove6a nextShow6a thrown6 rows6 labels6 guesses6 comes6 sizes6 words6 up6 down6 weightAbove6 weightBelow6 told6 length6 behind6 shares6 over6 start6 move6 show6 signs6 many6 bestPath6 nextStart6_7 nextMove6_8 nextShow6_9) → va_S A s.heap H locs → lv_has ls 3 [(0, .ref h6)] → W p l e (rmOf 3 76) s m args below meth c H locs 0 0 Q (F0 m 37 ls [])) → W p l e (rmOf 3 76) s m args below meth c H locs 0 0 Q (F0 m 2 ls []) := by
    intro n
    induction n with
    | zero => intro y1_2 nextStart6_3 nextMove6_4 nextShow6_5 z1_6 nextStart6_7 nextMove6_8 nextShow6_9 h; rw [f_X6_learnt_L2.eq_1] at h; cases h
    | succ n ih =>
      intro y1_2 nextStart6_3 nextMove6_4 nextShow6_5 z1_6 nextStart6_7 nextMove6_8 nextShow6_9 h H locs ls hP hD hS hl K
      rw [f_X6_learnt_L2.eq_2] at h
      refine lv_iload_n hx hb dX6_learnt_2 rfl (lv_at hl 0 rfl) ?_
      refine lv_bipush (v := 16) hx hb dX6_learnt_3 (by decide) ?_
      refine lv_icmp_ge (tgt := 37) hx hb dX6_learnt_5 (by decide) (fun c_10 => ?_) (fun c_10 => ?_)
      · have h := it_p c_10 h
        cases h
        exact K _ _ _ hP hD hS (lv_sub hl [1] rfl)
      · have h := it_n c_10 h
        refine lv_aload_n hx hb dX6_learnt_8 rfl (lv_at hl 1 rfl) ?_
        refine va_get (D := D) (ci := 5) (v := .ref nextStart6a) (C := RX6) (T := TX6) (N := 25) hx hb hts hinX6 hown hK.1 hP 0 rfl rfl 22 (by decide) hw1 (fun _ h9 => h9) rfl dX6_learnt_9 ?_
        refine lv_iload_n hx hb dX6_learnt_12 rfl (lv_at hl 0 rfl) ?_
        refine lv_iconst (v := 4) hx hb dX6_learnt_13 (by decide) ?_
        obtain ⟨hz_11, h⟩ := dz_s h
        refine lv_irem hx hb dX6_learnt_14 hz_11 ?_
        refine lv_iconst (v := 1) hx hb dX6_learnt_15 (by decide) ?_
        obtain ⟨hi_12, h⟩ := sI_s h
        refine va_iast hx hb hK.1 hP hD hS 15 0 rfl rfl hi_12 dX6_learnt_16 (fun H locs hP hD hS => ?_)
        obtain ⟨nextStart6_13, enextStart6_13⟩ : ∃ z, z = upd nextStart6_3 (Int32.toNatClampNeg (y1_2 - y1_2 / 4 * 4)) 1 := ⟨_, rfl⟩
        have h := h nextStart6_13 enextStart6_13
        rw [← enextStart6_13] at hP hD
        have hP : va_P D vwK (w6 cI cJ h6 labels6a guesses6a comes6a sizes6a words6a told6a behind6a shares6a start6a move6a show6a signs6a many6a bestPath6a nextStart6a nextMove6a nextShow6a thrown6 rows6 labels6 guesses6 comes6 sizes6 words6 up6 down6 weightAbove6 weightBelow6 told6 length6 behind6 shares6 over6 start6 move6 show6 signs6 many6 bestPath6 nextStart6_13 nextMove6_4 nextShow6_5) H := hP
        have hD : va_D A (w6 cI cJ h6 labels6a guesses6a comes6a sizes6a words6a told6a behind6a shares6a start6a move6a show6a signs6a many6a bestPath6a nextStart6a nextMove6a nextShow6a thrown6 rows6 labels6 guesses6 comes6 sizes6 words6 up6 down6 weightAbove6 weightBelow6 told6 length6 behind6 shares6 over6 start6 move6 show6 signs6 many6 bestPath6 nextStart6_13 nextMove6_4 nextShow6_5) := hD
        refine lv_aload_n hx hb dX6_learnt_17 rfl (lv_at hl 1 rfl) ?_
        refine va_get (D := D) (ci := 5) (v := .ref nextMove6a) (C := RX6) (T := TX6) (N := 25) hx hb hts hinX6 hown hK.1 hP 0 rfl rfl 23 (by decide) hw3 (fun _ h9 => h9) rfl dX6_learnt_18 ?_
        refine lv_iload_n hx hb dX6_learnt_21 rfl (lv_at hl 0 rfl) ?_
        refine lv_iconst (v := 1) hx hb dX6_learnt_22 (by decide) ?_
        obtain ⟨hi_14, h⟩ := sI_s h
        refine va_iast hx hb hK.1 hP hD hS 16 0 rfl rfl hi_14 dX6_learnt_23 (fun H locs hP hD hS => ?_)
        obtain ⟨nextMove6_15, enextMove6_15⟩ : ∃ z, z = upd nextMove6_4 (Int32.toNatClampNeg y1_2) 1 := ⟨_, rfl⟩
        have h := h nextMove6_15 enextMove6_15
        rw [← enextMove6_15] at hP hD
        have hP : va_P D vwK (w6 cI cJ h6 labels6a guesses6a comes6a sizes6a words6a told6a behind6a shares6a start6a move6a show6a signs6a many6a bestPath6a nextStart6a nextMove6a nextShow6a thrown6 rows6 labels6 guesses6 comes6 sizes6 words6 up6 down6 weightAbove6 weightBelow6 told6 length6 behind6 shares6 over6 start6 move6 show6 signs6 many6 bestPath6 nextStart6_13 nextMove6_15 nextShow6_5) H := hP
        have hD : va_D A (w6 cI cJ h6 labels6a guesses6a comes6a sizes6a words6a told6a behind6a shares6a start6a move6a show6a signs6a many6a bestPath6a nextStart6a nextMove6a nextShow6a thrown6 rows6 labels6 guesses6 comes6 sizes6 words6 up6 down6 weightAbove6 weightBelow6 told6 length6 behind6 shares6 over6 start6 move6 show6 signs6 many6 bestPath6 nextStart6_13 nextMove6_15 nextShow6_5) := hD
        refine lv_aload_n hx hb dX6_learnt_24 rfl (lv_at hl 1 rfl) ?_
        refine va_get (D := D) (ci := 5) (v := .ref nextShow6a) (C := RX6) (T := TX6) (N := 25) hx hb hts hinX6 hown hK.1 hP 0 rfl rfl 24 (by decide) hw4 (fun _ h9 => h9) rfl dX6_learnt_25 ?_
        refine lv_iload_n hx hb dX6_learnt_28 rfl (lv_at hl 0 rfl) ?_
        refine lv_iconst (v := 1) hx hb dX6_learnt_29 (by decide) ?_
        obtain ⟨hi_16, h⟩ := sI_s h
        refine va_iast hx hb hK.1 hP hD hS 17 0 rfl rfl hi_16 dX6_learnt_30 (fun H locs hP hD hS => ?_)
        obtain ⟨nextShow6_17, enextShow6_17⟩ : ∃ z, z = upd nextShow6_5 (Int32.toNatClampNeg y1_2) 1 := ⟨_, rfl⟩
        have h := h nextShow6_17 enextShow6_17
        rw [← enextShow6_17] at hP hD
        have hP : va_P D vwK (w6 cI cJ h6 labels6a guesses6a comes6a sizes6a words6a told6a behind6a shares6a start6a move6a show6a signs6a many6a bestPath6a nextStart6a nextMove6a nextShow6a thrown6 rows6 labels6 guesses6 comes6 sizes6 words6 up6 down6 weightAbove6 weightBelow6 told6 length6 behind6 shares6 over6 start6 move6 show6 signs6 many6 bestPath6 nextStart6_13 nextMove6_15 nextShow6_17) H := hP
        have hD : va_D A (w6 cI cJ h6 labels6a guesses6a comes6a sizes6a words6a told6a behind6a shares6a start6a move6a show6a signs6a many6a bestPath6a nextStart6a nextMove6a nextShow6a thrown6 rows6 labels6 guesses6 comes6 sizes6 words6 up6 down6 weightAbove6 weightBelow6 told6 length6 behind6 shares6 over6 start6 move6 show6 signs6 many6 bestPath6 nextStart6_13 nextMove6_15 nextShow6_17) := hD
        obtain ⟨x1_18, ex1_18⟩ : ∃ z : Int32, z = y1_2 + 1 := ⟨_, rfl⟩
        have h := nm_s h x1_18 ex1_18
        refine lv_iinc (v := x1_18) (lv' := [(1, .int x1_18), (0, .ref h6)]) hx hb dX6_learnt_31 hl (k := 0) rfl (by rw [ex1_18]; rfl) (by decide) rfl (fun ls hl => ?_)
        refine lv_goto (tgt := 2) hx hb dX6_learnt_34 (by decide) ?_
        exact ih _ _ _ _ _ _ _ _ h _ _ _ hP hD hS (lv_sub hl [0, 1] rfl) K
  obtain ⟨⟨z1_19, nextStart6_20, nextMove6_21, nextShow6_22⟩, hl_23, h⟩ := bd_s h
  refine L2 FU x1_1 nextStart6 nextMove6 nextShow6 _ _ _ _ hl_23 _ _ _ hP hD hS (lv_sub hl [0, 1] rfl) (fun H locs ls hP hD hS hl => ?_)
  refine lv_iconst (v := 0) hx hb dX6_learnt_37 (by decide) ?_
  refine lv_topi (fun x1_24 ex1_24 => ?_)
  have h := nm_s h x1_24 ex1_24
  refine lv_istore_n (lv' := [(1, .int x1_24), (0, .ref h6)]) hx hb dX6_learnt_38 rfl hl (by decide) rfl (fun ls hl => ?_)
  have L39 : ∀ (n : Nat) (y1_25 : Int32) (bestPath6_26 : Nat → Int32) (nextStart6_27 : Nat → Int32) (nextMove6_28 : Nat → Int32) (nextShow6_29 : Nat → Int32) (z1_30 : Int32) (bestPath6_31 : Nat → Int32) (nextStart6_32 : Nat → Int32) (nextMove6_33 : Nat → Int32) (nextShow6_34 : Nat → Int32), f_X6_learnt_L39 start6 move6 show6 signs6 many6 n y1_25 bestPath6_26 nextStart6_27 nextMove6_28 nextShow6_29 = some (z1_30, bestPath6_31, nextStart6_32, nextMove6_33, nextShow6_34) → ∀ (H : Heap) (locs : List Loc) (ls : Array Slot), va_P D vwK (w6 cI cJ h6 labels6a guesses6a comes6a sizes6a words6a told6a behind6a shares6a start6a move6a show6a signs6a many6a bestPath6a nextStart6a nextMove6a nextShow6a thrown6 rows6 labels6 guesses6 comes6 sizes6 words6 up6 down6 weightAbove6 weightBelow6 told6 length6 behind6 shares6 over6 start6 move6 show6 signs6 many6 bestPath6_26 nextStart6_27 nextMove6_28 nextShow6_29) H → va_D A (w6 cI cJ h6 labels6a guesses6a comes6a sizes6a words6a told6a behind6a shares6a start6a move6a show6a signs6a many6a bestPath6a nextStart6a nextMove6a nextShow6a thrown6 rows6 labels6 guesses6 comes6 sizes6 words6 up6 down6 weightAbove6 weightBelow6 told6 length6 behind6 shares6 over6 start6 move6 show6 signs6 many6 bestPath6_26 nextStart6_27 nextMove6_28 nextShow6_29) → va_S A s.heap H locs → lv_has ls 3 [(1, .int y1_25), (0, .ref h6)] → (∀ (H : Heap) (locs : List Loc) (ls : Array Slot), va_P D vwK (w6 cI cJ h6 labels6a guesses6a comes6a sizes6a words6a told6a behind6a shares6a start6a move6a show6a signs6a many6a bestPath6a nextStart6a nextMove6a nextShow6a thrown6 rows6 labels6 guesses6 comes6 sizes6 words6 up6 down6 weightAbove6 weightBelow6 told6 length6 behind6 shares6 over6 start6 move6 show6 signs6 many6 bestPath6_31 nextStart6_32 nextMove6_33 nextShow6_34) H → va_D A (w6 cI cJ h6 labels6a guesses6a comes6a sizes6a words6a told6a behind6a shares6a start6a move6a show6a signs6a many6a bestPath6a nextStart6a nextMove6a nextShow6a thrown6 rows6 labels6 guesses6 comes6 sizes6 words6 up6 down6 weightAbove6 weightBelow6 told6 length6 behind6 shares6 over6 start6 move6 show6 signs6 many6 bestPath6_31 nextStart6_32 nextMove6_33 nextShow6_34) → va_S A s.heap H locs → lv_has ls 3 [(0, .ref h6)] → W p l e (rmOf 3 76) s m args below meth c H locs 0 0 Q (F0 m 82 ls [])) → W p l e (rmOf 3 76) s m args below meth c H locs 0 0 Q (F0 m 39 ls []) := by
    intro n
    induction n with
    | zero => intro y1_25 bestPath6_26 nextStart6_27 nextMove6_28 nextShow6_29 z1_30 bestPath6_31 nextStart6_32 nextMove6_33 nextShow6_34 h; rw [f_X6_learnt_L39.eq_1] at h; cases h
    | succ n ih =>
      intro y1_25 bestPath6_26 nextStart6_27 nextMove6_28 nextShow6_29 z1_30 bestPath6_31 nextStart6_32 nextMove6_33 nextShow6_34 h H locs ls hP hD hS hl K
      rw [f_X6_learnt_L39.eq_2] at h
      refine lv_iload_n hx hb dX6_learnt_39 rfl (lv_at hl 0 rfl) ?_
      refine lv_iconst (v := 4) hx hb dX6_learnt_40 (by decide) ?_
      refine lv_icmp_ge (tgt := 82) hx hb dX6_learnt_41 (by decide) (fun c_35 => ?_) (fun c_35 => ?_)
      · have h := it_p c_35 h
        cases h
        exact K _ _ _ hP hD hS (lv_sub hl [1] rfl)
      · have h := it_n c_35 h
        refine lv_aload_n hx hb dX6_learnt_44 rfl (lv_at hl 1 rfl) ?_
        refine va_get (D := D) (ci := 5) (v := .ref bestPath6a) (C := RX6) (T := TX6) (N := 25) hx hb hts hinX6 hown hK.1 hP 0 rfl rfl 21 (by decide) hw5 (fun _ h9 => h9) rfl dX6_learnt_45 ?_
        refine lv_iload_n hx hb dX6_learnt_48 rfl (lv_at hl 0 rfl) ?_
        refine lv_aload_n hx hb dX6_learnt_49 rfl (lv_at hl 1 rfl) ?_
        refine lv_iload_n hx hb dX6_learnt_50 rfl (lv_at hl 0 rfl) ?_
        obtain ⟨r_36, hc_37, h⟩ := bd_s h
        refine callTi (As := [.int y1_25]) (rest := [.int y1_25, .ref bestPath6a]) ⟨hx, hb, hml, hown, hts⟩ (c_X6_bestPathOf l D cI cJ h6 labels6a guesses6a comes6a sizes6a words6a told6a behind6a shares6a start6a move6a show6a signs6a many6a bestPath6a nextStart6a nextMove6a nextShow6a thrown6 rows6 labels6 guesses6 comes6 sizes6 words6 up6 down6 weightAbove6 weightBelow6 told6 length6 behind6 shares6 over6 start6 move6 show6 signs6 many6 bestPath6_26 nextStart6_27 nextMove6_28 nextShow6_29 y1_25 r_36 hc_37) (cwV 1 hts gX6_learnt_X6_bestPathOf rfl rfl rfl (by decide +kernel) ⟨Nat.le_of_ble_eq_true rfl, Nat.le_of_ble_eq_true rfl⟩) hK hP hD hS hA 0 5 rfl rfl rfl rfl hl.1 rfl (Nat.le_of_ble_eq_true rfl) dX6_learnt_51 ⟨Nat.zero_le _, Nat.zero_le _⟩ (fun H locs hP hD hS => ?_)
        obtain ⟨hi_38, h⟩ := sI_s h
        refine va_iast hx hb hK.1 hP hD hS 14 0 rfl rfl hi_38 dX6_learnt_54 (fun H locs hP hD hS => ?_)
        obtain ⟨bestPath6_39, ebestPath6_39⟩ : ∃ z, z = upd bestPath6_26 (Int32.toNatClampNeg y1_25) r_36 := ⟨_, rfl⟩
        have h := h bestPath6_39 ebestPath6_39
        rw [← ebestPath6_39] at hP hD
        have hP : va_P D vwK (w6 cI cJ h6 labels6a guesses6a comes6a sizes6a words6a told6a behind6a shares6a start6a move6a show6a signs6a many6a bestPath6a nextStart6a nextMove6a nextShow6a thrown6 rows6 labels6 guesses6 comes6 sizes6 words6 up6 down6 weightAbove6 weightBelow6 told6 length6 behind6 shares6 over6 start6 move6 show6 signs6 many6 bestPath6_39 nextStart6_27 nextMove6_28 nextShow6_29) H := hP
        have hD : va_D A (w6 cI cJ h6 labels6a guesses6a comes6a sizes6a words6a told6a behind6a shares6a start6a move6a show6a signs6a many6a bestPath6a nextStart6a nextMove6a nextShow6a thrown6 rows6 labels6 guesses6 comes6 sizes6 words6 up6 down6 weightAbove6 weightBelow6 told6 length6 behind6 shares6 over6 start6 move6 show6 signs6 many6 bestPath6_39 nextStart6_27 nextMove6_28 nextShow6_29) := hD
        refine lv_aload_n hx hb dX6_learnt_55 rfl (lv_at hl 1 rfl) ?_
        refine va_get (D := D) (ci := 5) (v := .ref bestPath6a) (C := RX6) (T := TX6) (N := 25) hx hb hts hinX6 hown hK.1 hP 0 rfl rfl 21 (by decide) hw5 (fun _ h9 => h9) rfl dX6_learnt_56 ?_
        refine lv_iload_n hx hb dX6_learnt_59 rfl (lv_at hl 0 rfl) ?_
        obtain ⟨hi_40, h⟩ := gA_s h
        refine va_iald hx hb hK.1 hP 14 0 rfl rfl hi_40 dX6_learnt_60 ?_
        refine lv_topi (fun v_41 ev_41 => ?_)
        have h := h v_41 ev_41
        refine lv_iconst (v := (-1)) hx hb dX6_learnt_61 (by decide) ?_
        refine lv_icmp_eq (tgt := 76) hx hb dX6_learnt_62 (by decide) (fun c_42 => ?_) (fun c_42 => ?_)
        · have h := it_p c_42 h
          obtain ⟨x1_43, ex1_43⟩ : ∃ z : Int32, z = y1_25 + 1 := ⟨_, rfl⟩
          have h := nm_s h x1_43 ex1_43
          refine lv_iinc (v := x1_43) (lv' := [(1, .int x1_43), (0, .ref h6)]) hx hb dX6_learnt_76 hl (k := 0) rfl (by rw [ex1_43]; rfl) (by decide) rfl (fun ls hl => ?_)
          refine lv_goto (tgt := 39) hx hb dX6_learnt_79 (by decide) ?_
          exact ih _ _ _ _ _ _ _ _ _ _ h _ _ _ hP hD hS (lv_sub hl [0, 1] rfl) K
        · have h := it_n c_42 h
          refine lv_aload_n hx hb dX6_learnt_65 rfl (lv_at hl 1 rfl) ?_
          refine lv_aload_n hx hb dX6_learnt_66 rfl (lv_at hl 1 rfl) ?_
          refine va_get (D := D) (ci := 5) (v := .ref bestPath6a) (C := RX6) (T := TX6) (N := 25) hx hb hts hinX6 hown hK.1 hP 0 rfl rfl 21 (by decide) hw5 (fun _ h9 => h9) rfl dX6_learnt_67 ?_
          refine lv_iload_n hx hb dX6_learnt_70 rfl (lv_at hl 0 rfl) ?_
          obtain ⟨hi_44, h⟩ := gA_s h
          refine va_iald hx hb hK.1 hP 14 0 rfl rfl hi_44 dX6_learnt_71 ?_
          refine lv_topi (fun v_45 ev_45 => ?_)
          have h := h v_45 ev_45
          refine lv_iload_n hx hb dX6_learnt_72 rfl (lv_at hl 0 rfl) ?_
          obtain ⟨⟨nextStart6_46, nextMove6_47, nextShow6_48⟩, hc_49, h⟩ := bd_s h
          refine callTv (As := [.int v_45, .int y1_25]) (rest := []) ⟨hx, hb, hml, hown, hts⟩ (c_X6_countPath l D cI cJ h6 labels6a guesses6a comes6a sizes6a words6a told6a behind6a shares6a start6a move6a show6a signs6a many6a bestPath6a nextStart6a nextMove6a nextShow6a thrown6 rows6 labels6 guesses6 comes6 sizes6 words6 up6 down6 weightAbove6 weightBelow6 told6 length6 behind6 shares6 over6 start6 move6 show6 signs6 many6 bestPath6_39 nextStart6_27 nextMove6_28 nextShow6_29 v_45 y1_25 nextStart6_46 nextMove6_47 nextShow6_48 hc_49) (cwV 2 hts gX6_learnt_X6_countPath rfl rfl rfl (by decide +kernel) ⟨Nat.le_of_ble_eq_true rfl, Nat.le_of_ble_eq_true rfl⟩) hK hP hD hS hA 0 5 rfl rfl rfl rfl hl.1 rfl (Nat.le_of_ble_eq_true rfl) dX6_learnt_73 ⟨Nat.zero_le _, Nat.zero_le _⟩ (fun H locs hP hD hS => ?_)
          obtain ⟨x1_50, ex1_50⟩ : ∃ z : Int32, z = y1_25 + 1 := ⟨_, rfl⟩
          have h := nm_s h x1_50 ex1_50
          refine lv_iinc (v := x1_50) (lv' := [(1, .int x1_50), (0, .ref h6)]) hx hb dX6_learnt_76 hl (k := 0) rfl (by rw [ex1_50]; rfl) (by decide) rfl (fun ls hl => ?_)
          refine lv_goto (tgt := 39) hx hb dX6_learnt_79 (by decide) ?_
          exact ih _ _ _ _ _ _ _ _ _ _ h _ _ _ hP hD hS (lv_sub hl [0, 1] rfl) K
  obtain ⟨⟨z1_51, bestPath6_52, nextStart6_53, nextMove6_54, nextShow6_55⟩, hl_56, h⟩ := bd_s h
  refine L39 FU x1_24 bestPath6 nextStart6_20 nextMove6_21 nextShow6_22 _ _ _ _ _ hl_56 _ _ _ hP hD hS (lv_sub hl [0, 1] rfl) (fun H locs ls hP hD hS hl => ?_)
  refine lv_iconst (v := 0) hx hb dX6_learnt_82 (by decide) ?_
  refine lv_topi (fun x1_57 ex1_57 => ?_)
  have h := nm_s h x1_57 ex1_57
  refine lv_istore_n (lv' := [(1, .int x1_57), (0, .ref h6)]) hx hb dX6_learnt_83 rfl hl (by decide) rfl (fun ls hl => ?_)
  refine lv_iconst (v := 0) hx hb dX6_learnt_84 (by decide) ?_
  refine lv_topi (fun x2_58 ex2_58 => ?_)
  have h := nm_s h x2_58 ex2_58
  refine lv_istore_n (lv' := [(2, .int x2_58), (1, .int x1_57), (0, .ref h6)]) hx hb dX6_learnt_85 rfl hl (by decide) rfl (fun ls hl => ?_)
  have L86 : ∀ (n : Nat) (y2_59 : Int32) (y1_60 : Int32) (z2_61 : Int32) (z1_62 : Int32), f_X6_learnt_L86 start6 move6 show6 nextStart6_53 nextMove6_54 nextShow6_55 n y2_59 y1_60 = some (z2_61, z1_62) → ∀ (H : Heap) (locs : List Loc) (ls : Array Slot), va_P D vwK (w6 cI cJ h6 labels6a guesses6a comes6a sizes6a words6a told6a behind6a shares6a start6a move6a show6a signs6a many6a bestPath6a nextStart6a nextMove6a nextShow6a thrown6 rows6 labels6 guesses6 comes6 sizes6 words6 up6 down6 weightAbove6 weightBelow6 told6 length6 behind6 shares6 over6 start6 move6 show6 signs6 many6 bestPath6_52 nextStart6_53 nextMove6_54 nextShow6_55) H → va_D A (w6 cI cJ h6 labels6a guesses6a comes6a sizes6a words6a told6a behind6a shares6a start6a move6a show6a signs6a many6a bestPath6a nextStart6a nextMove6a nextShow6a thrown6 rows6 labels6 guesses6 comes6 sizes6 words6 up6 down6 weightAbove6 weightBelow6 told6 length6 behind6 shares6 over6 start6 move6 show6 signs6 many6 bestPath6_52 nextStart6_53 nextMove6_54 nextShow6_55) → va_S A s.heap H locs → lv_has ls 3 [(2, .int y2_59), (1, .int y1_60), (0, .ref h6)] → (∀ (H : Heap) (locs : List Loc) (ls : Array Slot), va_P D vwK (w6 cI cJ h6 labels6a guesses6a comes6a sizes6a words6a told6a behind6a shares6a start6a move6a show6a signs6a many6a bestPath6a nextStart6a nextMove6a nextShow6a thrown6 rows6 labels6 guesses6 comes6 sizes6 words6 up6 down6 weightAbove6 weightBelow6 told6 length6 behind6 shares6 over6 start6 move6 show6 signs6 many6 bestPath6_52 nextStart6_53 nextMove6_54 nextShow6_55) H → va_D A (w6 cI cJ h6 labels6a guesses6a comes6a sizes6a words6a told6a behind6a shares6a start6a move6a show6a signs6a many6a bestPath6a nextStart6a nextMove6a nextShow6a thrown6 rows6 labels6 guesses6 comes6 sizes6 words6 up6 down6 weightAbove6 weightBelow6 told6 length6 behind6 shares6 over6 start6 move6 show6 signs6 many6 bestPath6_52 nextStart6_53 nextMove6_54 nextShow6_55) → va_S A s.heap H locs → lv_has ls 3 [(1, .int z1_62), (0, .ref h6)] → W p l e (rmOf 3 76) s m args below meth c H locs 0 0 Q (F0 m 157 ls [])) → W p l e (rmOf 3 76) s m args below meth c H locs 0 0 Q (F0 m 86 ls []) := by
    intro n
    induction n with
    | zero => intro y2_59 y1_60 z2_61 z1_62 h; rw [f_X6_learnt_L86.eq_1] at h; cases h
    | succ n ih =>
      intro y2_59 y1_60 z2_61 z1_62 h H locs ls hP hD hS hl K
      rw [f_X6_learnt_L86.eq_2] at h
      refine lv_iload_n hx hb dX6_learnt_86 rfl (lv_at hl 0 rfl) ?_
      refine lv_bipush (v := 16) hx hb dX6_learnt_87 (by decide) ?_
      refine lv_icmp_ge (tgt := 157) hx hb dX6_learnt_89 (by decide) (fun c_63 => ?_) (fun c_63 => ?_)
      · have h := it_p c_63 h
        cases h
        exact K _ _ _ hP hD hS (lv_sub hl [1, 2] rfl)
      · have h := it_n c_63 h
        refine lv_iload_n hx hb dX6_learnt_92 rfl (lv_at hl 1 rfl) ?_
        refine lv_if_ne (tgt := 145) hx hb dX6_learnt_93 (by decide) (fun c_64 => ?_) (fun c_64 => ?_)
        · have h := it_n c_64 h
          refine lv_iconst (v := 1) hx hb dX6_learnt_145 (by decide) ?_
          refine lv_goto (tgt := 150) hx hb dX6_learnt_146 (by decide) ?_
          refine lv_topi (fun x1_65 ex1_65 => ?_)
          have h := nm_s h x1_65 ex1_65
          refine lv_istore_n (lv' := [(1, .int x1_65), (2, .int y2_59), (0, .ref h6)]) hx hb dX6_learnt_150 rfl hl (by decide) rfl (fun ls hl => ?_)
          obtain ⟨x2_66, ex2_66⟩ : ∃ z : Int32, z = y2_59 + 1 := ⟨_, rfl⟩
          have h := nm_s h x2_66 ex2_66
          refine lv_iinc (v := x2_66) (lv' := [(2, .int x2_66), (1, .int x1_65), (0, .ref h6)]) hx hb dX6_learnt_151 hl (k := 1) rfl (by rw [ex2_66]; rfl) (by decide) rfl (fun ls hl => ?_)
          refine lv_goto (tgt := 86) hx hb dX6_learnt_154 (by decide) ?_
          exact ih _ _ _ _ h _ _ _ hP hD hS (lv_sub hl [0, 1, 2] rfl) K
        · have h := it_p c_64 h
          refine lv_aload_n hx hb dX6_learnt_96 rfl (lv_at hl 2 rfl) ?_
          refine va_get (D := D) (ci := 5) (v := .ref start6a) (C := RX6) (T := TX6) (N := 25) hx hb hts hinX6 hown hK.1 hP 0 rfl rfl 16 (by decide) hw6 (fun _ h9 => h9) rfl dX6_learnt_97 ?_
          refine lv_iload_n hx hb dX6_learnt_100 rfl (lv_at hl 0 rfl) ?_
          refine lv_iconst (v := 4) hx hb dX6_learnt_101 (by decide) ?_
          obtain ⟨hz_67, h⟩ := dz_s h
          refine lv_irem hx hb dX6_learnt_102 hz_67 ?_
          obtain ⟨hi_68, h⟩ := gA_s h
          refine va_iald hx hb hK.1 hP 9 0 rfl rfl hi_68 dX6_learnt_103 ?_
          refine lv_topi (fun v_69 ev_69 => ?_)
          have h := h v_69 ev_69
          refine lv_aload_n hx hb dX6_learnt_104 rfl (lv_at hl 2 rfl) ?_
          refine va_get (D := D) (ci := 5) (v := .ref nextStart6a) (C := RX6) (T := TX6) (N := 25) hx hb hts hinX6 hown hK.1 hP 0 rfl rfl 22 (by decide) hw1 (fun _ h9 => h9) rfl dX6_learnt_105 ?_
          refine lv_iload_n hx hb dX6_learnt_108 rfl (lv_at hl 0 rfl) ?_
          refine lv_iconst (v := 4) hx hb dX6_learnt_109 (by decide) ?_
          obtain ⟨hz_70, h⟩ := dz_s h
          refine lv_irem hx hb dX6_learnt_110 hz_70 ?_
          obtain ⟨hi_71, h⟩ := gA_s h
          refine va_iald hx hb hK.1 hP 15 0 rfl rfl hi_71 dX6_learnt_111 ?_
          refine lv_topi (fun v_72 ev_72 => ?_)
          have h := h v_72 ev_72
          refine lv_icmp_ne (tgt := 145) hx hb dX6_learnt_112 (by decide) (fun c_73 => ?_) (fun c_73 => ?_)
          · have h := it_n c_73 h
            refine lv_iconst (v := 1) hx hb dX6_learnt_145 (by decide) ?_
            refine lv_goto (tgt := 150) hx hb dX6_learnt_146 (by decide) ?_
            refine lv_topi (fun x1_74 ex1_74 => ?_)
            have h := nm_s h x1_74 ex1_74
            refine lv_istore_n (lv' := [(1, .int x1_74), (2, .int y2_59), (0, .ref h6)]) hx hb dX6_learnt_150 rfl hl (by decide) rfl (fun ls hl => ?_)
            obtain ⟨x2_75, ex2_75⟩ : ∃ z : Int32, z = y2_59 + 1 := ⟨_, rfl⟩
            have h := nm_s h x2_75 ex2_75
            refine lv_iinc (v := x2_75) (lv' := [(2, .int x2_75), (1, .int x1_74), (0, .ref h6)]) hx hb dX6_learnt_151 hl (k := 1) rfl (by rw [ex2_75]; rfl) (by decide) rfl (fun ls hl => ?_)
            refine lv_goto (tgt := 86) hx hb dX6_learnt_154 (by decide) ?_
            exact ih _ _ _ _ h _ _ _ hP hD hS (lv_sub hl [0, 1, 2] rfl) K
          · have h := it_p c_73 h
            refine lv_aload_n hx hb dX6_learnt_115 rfl (lv_at hl 2 rfl) ?_
            refine va_get (D := D) (ci := 5) (v := .ref move6a) (C := RX6) (T := TX6) (N := 25) hx hb hts hinX6 hown hK.1 hP 0 rfl rfl 17 (by decide) hw7 (fun _ h9 => h9) rfl dX6_learnt_116 ?_
            refine lv_iload_n hx hb dX6_learnt_119 rfl (lv_at hl 0 rfl) ?_
            obtain ⟨hi_76, h⟩ := gA_s h
            refine va_iald hx hb hK.1 hP 10 0 rfl rfl hi_76 dX6_learnt_120 ?_
            refine lv_topi (fun v_77 ev_77 => ?_)
            have h := h v_77 ev_77
            refine lv_aload_n hx hb dX6_learnt_121 rfl (lv_at hl 2 rfl) ?_
            refine va_get (D := D) (ci := 5) (v := .ref nextMove6a) (C := RX6) (T := TX6) (N := 25) hx hb hts hinX6 hown hK.1 hP 0 rfl rfl 23 (by decide) hw3 (fun _ h9 => h9) rfl dX6_learnt_122 ?_
            refine lv_iload_n hx hb dX6_learnt_125 rfl (lv_at hl 0 rfl) ?_
            obtain ⟨hi_78, h⟩ := gA_s h
            refine va_iald hx hb hK.1 hP 16 0 rfl rfl hi_78 dX6_learnt_126 ?_
            refine lv_topi (fun v_79 ev_79 => ?_)
            have h := h v_79 ev_79
            refine lv_icmp_ne (tgt := 145) hx hb dX6_learnt_127 (by decide) (fun c_80 => ?_) (fun c_80 => ?_)
            · have h := it_n c_80 h
              refine lv_iconst (v := 1) hx hb dX6_learnt_145 (by decide) ?_
              refine lv_goto (tgt := 150) hx hb dX6_learnt_146 (by decide) ?_
              refine lv_topi (fun x1_81 ex1_81 => ?_)
              have h := nm_s h x1_81 ex1_81
              refine lv_istore_n (lv' := [(1, .int x1_81), (2, .int y2_59), (0, .ref h6)]) hx hb dX6_learnt_150 rfl hl (by decide) rfl (fun ls hl => ?_)
              obtain ⟨x2_82, ex2_82⟩ : ∃ z : Int32, z = y2_59 + 1 := ⟨_, rfl⟩
              have h := nm_s h x2_82 ex2_82
              refine lv_iinc (v := x2_82) (lv' := [(2, .int x2_82), (1, .int x1_81), (0, .ref h6)]) hx hb dX6_learnt_151 hl (k := 1) rfl (by rw [ex2_82]; rfl) (by decide) rfl (fun ls hl => ?_)
              refine lv_goto (tgt := 86) hx hb dX6_learnt_154 (by decide) ?_
              exact ih _ _ _ _ h _ _ _ hP hD hS (lv_sub hl [0, 1, 2] rfl) K
            · have h := it_p c_80 h
              refine lv_aload_n hx hb dX6_learnt_130 rfl (lv_at hl 2 rfl) ?_
              refine va_get (D := D) (ci := 5) (v := .ref show6a) (C := RX6) (T := TX6) (N := 25) hx hb hts hinX6 hown hK.1 hP 0 rfl rfl 18 (by decide) hw8 (fun _ h9 => h9) rfl dX6_learnt_131 ?_
              refine lv_iload_n hx hb dX6_learnt_134 rfl (lv_at hl 0 rfl) ?_
              obtain ⟨hi_83, h⟩ := gA_s h
              refine va_iald hx hb hK.1 hP 11 0 rfl rfl hi_83 dX6_learnt_135 ?_
              refine lv_topi (fun v_84 ev_84 => ?_)
              have h := h v_84 ev_84
              refine lv_aload_n hx hb dX6_learnt_136 rfl (lv_at hl 2 rfl) ?_
              refine va_get (D := D) (ci := 5) (v := .ref nextShow6a) (C := RX6) (T := TX6) (N := 25) hx hb hts hinX6 hown hK.1 hP 0 rfl rfl 24 (by decide) hw4 (fun _ h9 => h9) rfl dX6_learnt_137 ?_
              refine lv_iload_n hx hb dX6_learnt_140 rfl (lv_at hl 0 rfl) ?_
              obtain ⟨hi_85, h⟩ := gA_s h
              refine va_iald hx hb hK.1 hP 17 0 rfl rfl hi_85 dX6_learnt_141 ?_
              refine lv_topi (fun v_86 ev_86 => ?_)
              have h := h v_86 ev_86
              refine lv_icmp_eq (tgt := 149) hx hb dX6_learnt_142 (by decide) (fun c_87 => ?_) (fun c_87 => ?_)
              · have h := it_p c_87 h
                refine lv_iconst (v := 0) hx hb dX6_learnt_149 (by decide) ?_
                refine lv_topi (fun x1_88 ex1_88 => ?_)
                have h := nm_s h x1_88 ex1_88
                refine lv_istore_n (lv' := [(1, .int x1_88), (2, .int y2_59), (0, .ref h6)]) hx hb dX6_learnt_150 rfl hl (by decide) rfl (fun ls hl => ?_)
                obtain ⟨x2_89, ex2_89⟩ : ∃ z : Int32, z = y2_59 + 1 := ⟨_, rfl⟩
                have h := nm_s h x2_89 ex2_89
                refine lv_iinc (v := x2_89) (lv' := [(2, .int x2_89), (1, .int x1_88), (0, .ref h6)]) hx hb dX6_learnt_151 hl (k := 1) rfl (by rw [ex2_89]; rfl) (by decide) rfl (fun ls hl => ?_)
                refine lv_goto (tgt := 86) hx hb dX6_learnt_154 (by decide) ?_
                exact ih _ _ _ _ h _ _ _ hP hD hS (lv_sub hl [0, 1, 2] rfl) K
              · have h := it_n c_87 h
                refine lv_iconst (v := 1) hx hb dX6_learnt_145 (by decide) ?_
                refine lv_goto (tgt := 150) hx hb dX6_learnt_146 (by decide) ?_
                refine lv_topi (fun x1_90 ex1_90 => ?_)
                have h := nm_s h x1_90 ex1_90
                refine lv_istore_n (lv' := [(1, .int x1_90), (2, .int y2_59), (0, .ref h6)]) hx hb dX6_learnt_150 rfl hl (by decide) rfl (fun ls hl => ?_)
                obtain ⟨x2_91, ex2_91⟩ : ∃ z : Int32, z = y2_59 + 1 := ⟨_, rfl⟩
                have h := nm_s h x2_91 ex2_91
                refine lv_iinc (v := x2_91) (lv' := [(2, .int x2_91), (1, .int x1_90), (0, .ref h6)]) hx hb dX6_learnt_151 hl (k := 1) rfl (by rw [ex2_91]; rfl) (by decide) rfl (fun ls hl => ?_)
                refine lv_goto (tgt := 86) hx hb dX6_learnt_154 (by decide) ?_
                exact ih _ _ _ _ h _ _ _ hP hD hS (lv_sub hl [0, 1, 2] rfl) K
  obtain ⟨⟨z2_92, z1_93⟩, hl_94, h⟩ := bd_s h
  refine L86 FU x2_58 x1_57 _ _ hl_94 _ _ _ hP hD hS (lv_sub hl [0, 1, 2] rfl) (fun H locs ls hP hD hS hl => ?_)
  refine lv_iconst (v := 0) hx hb dX6_learnt_157 (by decide) ?_
  refine lv_topi (fun x2_95 ex2_95 => ?_)
  have h := nm_s h x2_95 ex2_95
  refine lv_istore_n (lv' := [(2, .int x2_95), (1, .int z1_93), (0, .ref h6)]) hx hb dX6_learnt_158 rfl hl (by decide) rfl (fun ls hl => ?_)
  have L159 : ∀ (n : Nat) (y2_96 : Int32) (start6_97 : Nat → Int32) (move6_98 : Nat → Int32) (show6_99 : Nat → Int32) (z2_100 : Int32) (start6_101 : Nat → Int32) (move6_102 : Nat → Int32) (show6_103 : Nat → Int32), f_X6_learnt_L159 nextStart6_53 nextMove6_54 nextShow6_55 n y2_96 start6_97 move6_98 show6_99 = some (z2_100, start6_101, move6_102, show6_103) → ∀ (H : Heap) (locs : List Loc) (ls : Array Slot), va_P D vwK (w6 cI cJ h6 labels6a guesses6a comes6a sizes6a words6a told6a behind6a shares6a start6a move6a show6a signs6a many6a bestPath6a nextStart6a nextMove6a nextShow6a thrown6 rows6 labels6 guesses6 comes6 sizes6 words6 up6 down6 weightAbove6 weightBelow6 told6 length6 behind6 shares6 over6 start6_97 move6_98 show6_99 signs6 many6 bestPath6_52 nextStart6_53 nextMove6_54 nextShow6_55) H → va_D A (w6 cI cJ h6 labels6a guesses6a comes6a sizes6a words6a told6a behind6a shares6a start6a move6a show6a signs6a many6a bestPath6a nextStart6a nextMove6a nextShow6a thrown6 rows6 labels6 guesses6 comes6 sizes6 words6 up6 down6 weightAbove6 weightBelow6 told6 length6 behind6 shares6 over6 start6_97 move6_98 show6_99 signs6 many6 bestPath6_52 nextStart6_53 nextMove6_54 nextShow6_55) → va_S A s.heap H locs → lv_has ls 3 [(2, .int y2_96), (1, .int z1_93), (0, .ref h6)] → (∀ (H : Heap) (locs : List Loc) (ls : Array Slot), va_P D vwK (w6 cI cJ h6 labels6a guesses6a comes6a sizes6a words6a told6a behind6a shares6a start6a move6a show6a signs6a many6a bestPath6a nextStart6a nextMove6a nextShow6a thrown6 rows6 labels6 guesses6 comes6 sizes6 words6 up6 down6 weightAbove6 weightBelow6 told6 length6 behind6 shares6 over6 start6_101 move6_102 show6_103 signs6 many6 bestPath6_52 nextStart6_53 nextMove6_54 nextShow6_55) H → va_D A (w6 cI cJ h6 labels6a guesses6a comes6a sizes6a words6a told6a behind6a shares6a start6a move6a show6a signs6a many6a bestPath6a nextStart6a nextMove6a nextShow6a thrown6 rows6 labels6 guesses6 comes6 sizes6 words6 up6 down6 weightAbove6 weightBelow6 told6 length6 behind6 shares6 over6 start6_101 move6_102 show6_103 signs6 many6 bestPath6_52 nextStart6_53 nextMove6_54 nextShow6_55) → va_S A s.heap H locs → lv_has ls 3 [(1, .int z1_93)] → W p l e (rmOf 3 76) s m args below meth c H locs 0 0 Q (F0 m 211 ls [])) → W p l e (rmOf 3 76) s m args below meth c H locs 0 0 Q (F0 m 159 ls []) := by
    intro n
    induction n with
    | zero => intro y2_96 start6_97 move6_98 show6_99 z2_100 start6_101 move6_102 show6_103 h; rw [f_X6_learnt_L159.eq_1] at h; cases h
    | succ n ih =>
      intro y2_96 start6_97 move6_98 show6_99 z2_100 start6_101 move6_102 show6_103 h H locs ls hP hD hS hl K
      rw [f_X6_learnt_L159.eq_2] at h
      refine lv_iload_n hx hb dX6_learnt_159 rfl (lv_at hl 0 rfl) ?_
      refine lv_bipush (v := 16) hx hb dX6_learnt_160 (by decide) ?_
      refine lv_icmp_ge (tgt := 211) hx hb dX6_learnt_162 (by decide) (fun c_104 => ?_) (fun c_104 => ?_)
      · have h := it_p c_104 h
        cases h
        exact K _ _ _ hP hD hS (lv_sub hl [1] rfl)
      · have h := it_n c_104 h
        refine lv_aload_n hx hb dX6_learnt_165 rfl (lv_at hl 2 rfl) ?_
        refine va_get (D := D) (ci := 5) (v := .ref start6a) (C := RX6) (T := TX6) (N := 25) hx hb hts hinX6 hown hK.1 hP 0 rfl rfl 16 (by decide) hw6 (fun _ h9 => h9) rfl dX6_learnt_166 ?_
        refine lv_iload_n hx hb dX6_learnt_169 rfl (lv_at hl 0 rfl) ?_
        refine lv_iconst (v := 4) hx hb dX6_learnt_170 (by decide) ?_
        obtain ⟨hz_105, h⟩ := dz_s h
        refine lv_irem hx hb dX6_learnt_171 hz_105 ?_
        refine lv_aload_n hx hb dX6_learnt_172 rfl (lv_at hl 2 rfl) ?_
        refine va_get (D := D) (ci := 5) (v := .ref nextStart6a) (C := RX6) (T := TX6) (N := 25) hx hb hts hinX6 hown hK.1 hP 0 rfl rfl 22 (by decide) hw1 (fun _ h9 => h9) rfl dX6_learnt_173 ?_
        refine lv_iload_n hx hb dX6_learnt_176 rfl (lv_at hl 0 rfl) ?_
        refine lv_iconst (v := 4) hx hb dX6_learnt_177 (by decide) ?_
        obtain ⟨hz_106, h⟩ := dz_s h
        refine lv_irem hx hb dX6_learnt_178 hz_106 ?_
        obtain ⟨hi_107, h⟩ := gA_s h
        refine va_iald hx hb hK.1 hP 15 0 rfl rfl hi_107 dX6_learnt_179 ?_
        refine lv_topi (fun v_108 ev_108 => ?_)
        have h := h v_108 ev_108
        obtain ⟨hi_109, h⟩ := sI_s h
        refine va_iast hx hb hK.1 hP hD hS 9 0 rfl rfl hi_109 dX6_learnt_180 (fun H locs hP hD hS => ?_)
        obtain ⟨start6_110, estart6_110⟩ : ∃ z, z = upd start6_97 (Int32.toNatClampNeg (y2_96 - y2_96 / 4 * 4)) v_108 := ⟨_, rfl⟩
        have h := h start6_110 estart6_110
        rw [← estart6_110] at hP hD
        have hP : va_P D vwK (w6 cI cJ h6 labels6a guesses6a comes6a sizes6a words6a told6a behind6a shares6a start6a move6a show6a signs6a many6a bestPath6a nextStart6a nextMove6a nextShow6a thrown6 rows6 labels6 guesses6 comes6 sizes6 words6 up6 down6 weightAbove6 weightBelow6 told6 length6 behind6 shares6 over6 start6_110 move6_98 show6_99 signs6 many6 bestPath6_52 nextStart6_53 nextMove6_54 nextShow6_55) H := hP
        have hD : va_D A (w6 cI cJ h6 labels6a guesses6a comes6a sizes6a words6a told6a behind6a shares6a start6a move6a show6a signs6a many6a bestPath6a nextStart6a nextMove6a nextShow6a thrown6 rows6 labels6 guesses6 comes6 sizes6 words6 up6 down6 weightAbove6 weightBelow6 told6 length6 behind6 shares6 over6 start6_110 move6_98 show6_99 signs6 many6 bestPath6_52 nextStart6_53 nextMove6_54 nextShow6_55) := hD
        refine lv_aload_n hx hb dX6_learnt_181 rfl (lv_at hl 2 rfl) ?_
        refine va_get (D := D) (ci := 5) (v := .ref move6a) (C := RX6) (T := TX6) (N := 25) hx hb hts hinX6 hown hK.1 hP 0 rfl rfl 17 (by decide) hw7 (fun _ h9 => h9) rfl dX6_learnt_182 ?_
        refine lv_iload_n hx hb dX6_learnt_185 rfl (lv_at hl 0 rfl) ?_
        refine lv_aload_n hx hb dX6_learnt_186 rfl (lv_at hl 2 rfl) ?_
        refine va_get (D := D) (ci := 5) (v := .ref nextMove6a) (C := RX6) (T := TX6) (N := 25) hx hb hts hinX6 hown hK.1 hP 0 rfl rfl 23 (by decide) hw3 (fun _ h9 => h9) rfl dX6_learnt_187 ?_
        refine lv_iload_n hx hb dX6_learnt_190 rfl (lv_at hl 0 rfl) ?_
        obtain ⟨hi_111, h⟩ := gA_s h
        refine va_iald hx hb hK.1 hP 16 0 rfl rfl hi_111 dX6_learnt_191 ?_
        refine lv_topi (fun v_112 ev_112 => ?_)
        have h := h v_112 ev_112
        obtain ⟨hi_113, h⟩ := sI_s h
        refine va_iast hx hb hK.1 hP hD hS 10 0 rfl rfl hi_113 dX6_learnt_192 (fun H locs hP hD hS => ?_)
        obtain ⟨move6_114, emove6_114⟩ : ∃ z, z = upd move6_98 (Int32.toNatClampNeg y2_96) v_112 := ⟨_, rfl⟩
        have h := h move6_114 emove6_114
        rw [← emove6_114] at hP hD
        have hP : va_P D vwK (w6 cI cJ h6 labels6a guesses6a comes6a sizes6a words6a told6a behind6a shares6a start6a move6a show6a signs6a many6a bestPath6a nextStart6a nextMove6a nextShow6a thrown6 rows6 labels6 guesses6 comes6 sizes6 words6 up6 down6 weightAbove6 weightBelow6 told6 length6 behind6 shares6 over6 start6_110 move6_114 show6_99 signs6 many6 bestPath6_52 nextStart6_53 nextMove6_54 nextShow6_55) H := hP
        have hD : va_D A (w6 cI cJ h6 labels6a guesses6a comes6a sizes6a words6a told6a behind6a shares6a start6a move6a show6a signs6a many6a bestPath6a nextStart6a nextMove6a nextShow6a thrown6 rows6 labels6 guesses6 comes6 sizes6 words6 up6 down6 weightAbove6 weightBelow6 told6 length6 behind6 shares6 over6 start6_110 move6_114 show6_99 signs6 many6 bestPath6_52 nextStart6_53 nextMove6_54 nextShow6_55) := hD
        refine lv_aload_n hx hb dX6_learnt_193 rfl (lv_at hl 2 rfl) ?_
        refine va_get (D := D) (ci := 5) (v := .ref show6a) (C := RX6) (T := TX6) (N := 25) hx hb hts hinX6 hown hK.1 hP 0 rfl rfl 18 (by decide) hw8 (fun _ h9 => h9) rfl dX6_learnt_194 ?_
        refine lv_iload_n hx hb dX6_learnt_197 rfl (lv_at hl 0 rfl) ?_
        refine lv_aload_n hx hb dX6_learnt_198 rfl (lv_at hl 2 rfl) ?_
        refine va_get (D := D) (ci := 5) (v := .ref nextShow6a) (C := RX6) (T := TX6) (N := 25) hx hb hts hinX6 hown hK.1 hP 0 rfl rfl 24 (by decide) hw4 (fun _ h9 => h9) rfl dX6_learnt_199 ?_
        refine lv_iload_n hx hb dX6_learnt_202 rfl (lv_at hl 0 rfl) ?_
        obtain ⟨hi_115, h⟩ := gA_s h
        refine va_iald hx hb hK.1 hP 17 0 rfl rfl hi_115 dX6_learnt_203 ?_
        refine lv_topi (fun v_116 ev_116 => ?_)
        have h := h v_116 ev_116
        obtain ⟨hi_117, h⟩ := sI_s h
        refine va_iast hx hb hK.1 hP hD hS 11 0 rfl rfl hi_117 dX6_learnt_204 (fun H locs hP hD hS => ?_)
        obtain ⟨show6_118, eshow6_118⟩ : ∃ z, z = upd show6_99 (Int32.toNatClampNeg y2_96) v_116 := ⟨_, rfl⟩
        have h := h show6_118 eshow6_118
        rw [← eshow6_118] at hP hD
        have hP : va_P D vwK (w6 cI cJ h6 labels6a guesses6a comes6a sizes6a words6a told6a behind6a shares6a start6a move6a show6a signs6a many6a bestPath6a nextStart6a nextMove6a nextShow6a thrown6 rows6 labels6 guesses6 comes6 sizes6 words6 up6 down6 weightAbove6 weightBelow6 told6 length6 behind6 shares6 over6 start6_110 move6_114 show6_118 signs6 many6 bestPath6_52 nextStart6_53 nextMove6_54 nextShow6_55) H := hP
        have hD : va_D A (w6 cI cJ h6 labels6a guesses6a comes6a sizes6a words6a told6a behind6a shares6a start6a move6a show6a signs6a many6a bestPath6a nextStart6a nextMove6a nextShow6a thrown6 rows6 labels6 guesses6 comes6 sizes6 words6 up6 down6 weightAbove6 weightBelow6 told6 length6 behind6 shares6 over6 start6_110 move6_114 show6_118 signs6 many6 bestPath6_52 nextStart6_53 nextMove6_54 nextShow6_55) := hD
        obtain ⟨x2_119, ex2_119⟩ : ∃ z : Int32, z = y2_96 + 1 := ⟨_, rfl⟩
        have h := nm_s h x2_119 ex2_119
        refine lv_iinc (v := x2_119) (lv' := [(2, .int x2_119), (1, .int z1_93), (0, .ref h6)]) hx hb dX6_learnt_205 hl (k := 0) rfl (by rw [ex2_119]; rfl) (by decide) rfl (fun ls hl => ?_)
        refine lv_goto (tgt := 159) hx hb dX6_learnt_208 (by decide) ?_
        exact ih _ _ _ _ _ _ _ _ h _ _ _ hP hD hS (lv_sub hl [0, 1, 2] rfl) K
  obtain ⟨⟨z2_120, start6_121, move6_122, show6_123⟩, hl_124, h⟩ := bd_s h
  refine L159 FU x2_95 start6 move6 show6 _ _ _ _ hl_124 _ _ _ hP hD hS (lv_sub hl [0, 1, 2] rfl) (fun H locs ls hP hD hS hl => ?_)
  refine lv_iload_n hx hb dX6_learnt_211 rfl (lv_at hl 0 rfl) ?_
  obtain ⟨hz_125, h⟩ := bz_s h
  cases h
  exact hret _ _ _ _ hz_125 hP hD hS dX6_learnt_212
def f_X6_learn_L20 (i1 : Int32) (signs6 : Nat → Int32) (many6 : Nat → Int32) : Nat → Int32 → (Nat → Int32) → (Nat → Int32) → (Nat → Int32) → (Nat → Int32) → (Nat → Int32) → (Nat → Int32) → (Nat → Int32) → Option (Int32 × (Nat → Int32) × (Nat → Int32) × (Nat → Int32) × (Nat → Int32) × (Nat → Int32) × (Nat → Int32) × (Nat → Int32))
  | 0, _, _, _, _, _, _, _, _ => none
  | n + 1, y2_6, start6_7, move6_8, show6_9, bestPath6_10, nextStart6_11, nextMove6_12, nextShow6_13 =>
  Option.bind (f_X6_learnt start6_7 move6_8 show6_9 signs6 many6 bestPath6_10 nextStart6_11 nextMove6_12 nextShow6_13) fun (r_22, start6_23, move6_24, show6_25, bestPath6_26, nextStart6_27, nextMove6_28, nextShow6_29) =>
  if r_22 = 0 then
    some (y2_6, start6_23, move6_24, show6_25, bestPath6_26, nextStart6_27, nextMove6_28, nextShow6_29)
  else
    if i1 ≤ y2_6 then
      some (y2_6, start6_23, move6_24, show6_25, bestPath6_26, nextStart6_27, nextMove6_28, nextShow6_29)
    else
      nm (α := Int32) (y2_6 + 1) fun x2_33 =>
      f_X6_learn_L20 i1 signs6 many6 n x2_33 start6_23 move6_24 show6_25 bestPath6_26 nextStart6_27 nextMove6_28 nextShow6_29
def f_X6_learn (i1 : Int32) (thrown6 : Int32) (start6 : Nat → Int32) (move6 : Nat → Int32) (show6 : Nat → Int32) (signs6 : Nat → Int32) (many6 : Nat → Int32) (bestPath6 : Nat → Int32) (nextStart6 : Nat → Int32) (nextMove6 : Nat → Int32) (nextShow6 : Nat → Int32) : Option (Int32 × Int32 × (Nat → Int32) × (Nat → Int32) × (Nat → Int32) × (Nat → Int32) × (Nat → Int32) × (Nat → Int32) × (Nat → Int32)) :=
  nm (α := Int32) (0) fun thrown6_1 =>
  Option.bind (f_X6_within i1 1 20) fun r_2 =>
  if r_2 = 0 then
    some ((-2), thrown6_1, start6, move6, show6, bestPath6, nextStart6, nextMove6, nextShow6)
  else
    nm (α := Int32) (1) fun x2_5 =>
    Option.bind (f_X6_learn_L20 i1 signs6 many6 FU x2_5 start6 move6 show6 bestPath6 nextStart6 nextMove6 nextShow6) fun (z2_34, start6_35, move6_36, show6_37, bestPath6_38, nextStart6_39, nextMove6_40, nextShow6_41) =>
    some (z2_34, thrown6_1, start6_35, move6_36, show6_37, bestPath6_38, nextStart6_39, nextMove6_40, nextShow6_41)
set_option maxHeartbeats 4000000 in
set_option maxRecDepth 100000 in
theorem c_X6_learn (l : Launch) (D : va_G) (cI cJ : ClassId) (h6 labels6a guesses6a comes6a sizes6a words6a told6a behind6a shares6a start6a move6a show6a signs6a many6a bestPath6a nextStart6a nextMove6a nextShow6a : Nat) (thrown6 : Int32) (rows6 : Int32) (labels6 : Nat → Int32) (guesses6 : Nat → Int32) (comes6 : Nat → Int32) (sizes6 : Nat → Int32) (words6 : Nat → Int32) (up6 : Int32) (down6 : Int32) (weightAbove6 : Int64) (weightBelow6 : Int64) (told6 : Nat → Int32) (length6 : Int32) (behind6 : Nat → Int32) (shares6 : Nat → Int64) (over6 : Int64) (start6 : Nat → Int32) (move6 : Nat → Int32) (show6 : Nat → Int32) (signs6 : Nat → Int32) (many6 : Nat → Int32) (bestPath6 : Nat → Int32) (nextStart6 : Nat → Int32) (nextMove6 : Nat → Int32) (nextShow6 : Nat → Int32) (i1 : Int32) (ret9 : Int32) (thrown6z : Int32) (start6z : Nat → Int32) (move6z : Nat → Int32) (show6z : Nat → Int32) (bestPath6z : Nat → Int32) (nextStart6z : Nat → Int32) (nextMove6z : Nat → Int32) (nextShow6z : Nat → Int32) (h : f_X6_learn i1 thrown6 start6 move6 show6 signs6 many6 bestPath6 nextStart6 nextMove6 nextShow6 = some (ret9, thrown6z, start6z, move6z, show6z, bestPath6z, nextStart6z, nextMove6z, nextShow6z)) : CI l D cI cJ yX6_learn wsX6_learn 4 98 [.ref h6, .int i1] (w6 cI cJ h6 labels6a guesses6a comes6a sizes6a words6a told6a behind6a shares6a start6a move6a show6a signs6a many6a bestPath6a nextStart6a nextMove6a nextShow6a thrown6 rows6 labels6 guesses6 comes6 sizes6 words6 up6 down6 weightAbove6 weightBelow6 told6 length6 behind6 shares6 over6 start6 move6 show6 signs6 many6 bestPath6 nextStart6 nextMove6 nextShow6) (w6 cI cJ h6 labels6a guesses6a comes6a sizes6a words6a told6a behind6a shares6a start6a move6a show6a signs6a many6a bestPath6a nextStart6a nextMove6a nextShow6a thrown6z rows6 labels6 guesses6 comes6 sizes6 words6 up6 down6 weightAbove6 weightBelow6 told6 length6 behind6 shares6 over6 start6z move6z show6z signs6 many6 bestPath6z nextStart6z nextMove6z nextShow6z) ret9 := by
  refine entI (cc := cX6_learn) (maxL := 3) (by decide) rfl (Nat.le_of_ble_eq_true rfl) ?_
  intro p e s m args below meth c ls A Q X hret
  obtain ⟨hx, hb, hml, hts, hown, hK, hA, hP, hD, hS, hl, hnm⟩ := X
  have hown : s.vm.findClass RX6 = some m.cls := hown
  have hl : lv_has ls 3 [(0, .ref h6), (1, .int i1)] := hl
  have hw1 : (Cond.fieldLink RX6 69 "CountLearnersModel" "thrown" "I").before args s = true := hts _ (by decide +kernel)
  have hinX6 : ∀ w ∈ wsX60, w ∈ wsX6_learn := by decide +kernel
  unfold f_X6_learn at h
  refine lv_aload_n hx hb dX6_learn_0 rfl (lv_at hl 0 rfl) ?_
  refine lv_iconst (v := 0) hx hb dX6_learn_1 (by decide) ?_
  refine lv_topi (fun thrown6_1 ethrown6_1 => ?_)
  have h := nm_s h thrown6_1 ethrown6_1
  refine va_put (D := D) (ci := 5) (v := .int thrown6_1) (ty := .int) (C := RX6) (T := TX6) (N := 25) hx hb hts hinX6 tyX6 tyX6_ok nmX6 hown hK.1 hP hD hS 0 rfl rfl 0 (by decide) hw1 (fun _ h9 => h9) rfl (by decide +kernel) rfl rfl (Nat.le_of_ble_eq_true rfl) dX6_learn_2 (fun H locs hP hD hS => ?_)
  have hP : va_P D vwK (w6 cI cJ h6 labels6a guesses6a comes6a sizes6a words6a told6a behind6a shares6a start6a move6a show6a signs6a many6a bestPath6a nextStart6a nextMove6a nextShow6a thrown6_1 rows6 labels6 guesses6 comes6 sizes6 words6 up6 down6 weightAbove6 weightBelow6 told6 length6 behind6 shares6 over6 start6 move6 show6 signs6 many6 bestPath6 nextStart6 nextMove6 nextShow6) H := hP
  have hD : va_D A (w6 cI cJ h6 labels6a guesses6a comes6a sizes6a words6a told6a behind6a shares6a start6a move6a show6a signs6a many6a bestPath6a nextStart6a nextMove6a nextShow6a thrown6_1 rows6 labels6 guesses6 comes6 sizes6 words6 up6 down6 weightAbove6 weightBelow6 told6 length6 behind6 shares6 over6 start6 move6 show6 signs6 many6 bestPath6 nextStart6 nextMove6 nextShow6) := hD
  refine lv_iload_n hx hb dX6_learn_5 rfl (lv_at hl 1 rfl) ?_
  refine lv_iconst (v := 1) hx hb dX6_learn_6 (by decide) ?_
  refine lv_bipush (v := 20) hx hb dX6_learn_7 (by decide) ?_
  obtain ⟨r_2, hc_3, h⟩ := bd_s h
  refine callPi (As := [.int i1, .int 1, .int 20]) (rest := []) ⟨hx, hb, hml, hown, hts⟩ (c_X6_within l D cI cJ i1 1 20 r_2 hc_3) (va_cwS 3 hts gX6_learn_X6_within rfl rfl rfl (by decide +kernel) ⟨Nat.le_of_ble_eq_true rfl, Nat.le_of_ble_eq_true rfl⟩) hK hP hD hS hA rfl hl.1 rfl (Nat.le_of_ble_eq_true rfl) dX6_learn_9 ⟨Nat.zero_le _, Nat.zero_le _⟩ (fun H locs hP hD hS => ?_)
  refine lv_if_ne (tgt := 18) hx hb dX6_learn_12 (by decide) (fun c_4 => ?_) (fun c_4 => ?_)
  · have h := it_n c_4 h
    refine lv_iconst (v := 1) hx hb dX6_learn_18 (by decide) ?_
    refine lv_topi (fun x2_5 ex2_5 => ?_)
    have h := nm_s h x2_5 ex2_5
    refine lv_istore_n (lv' := [(2, .int x2_5), (0, .ref h6), (1, .int i1)]) hx hb dX6_learn_19 rfl hl (by decide) rfl (fun ls hl => ?_)
    have L20 : ∀ (n : Nat) (y2_6 : Int32) (start6_7 : Nat → Int32) (move6_8 : Nat → Int32) (show6_9 : Nat → Int32) (bestPath6_10 : Nat → Int32) (nextStart6_11 : Nat → Int32) (nextMove6_12 : Nat → Int32) (nextShow6_13 : Nat → Int32) (z2_14 : Int32) (start6_15 : Nat → Int32) (move6_16 : Nat → Int32) (show6_17 : Nat → Int32) (bestPath6_18 : Nat → Int32) (nextStart6_19 : Nat → Int32) (nextMove6_20 : Nat → Int32) (nextShow6_21 : Nat → Int32), f_X6_learn_L20 i1 signs6 many6 n y2_6 start6_7 move6_8 show6_9 bestPath6_10 nextStart6_11 nextMove6_12 nextShow6_13 = some (z2_14, start6_15, move6_16, show6_17, bestPath6_18, nextStart6_19, nextMove6_20, nextShow6_21) → ∀ (H : Heap) (locs : List Loc) (ls : Array Slot), va_P D vwK (w6 cI cJ h6 labels6a guesses6a comes6a sizes6a words6a told6a behind6a shares6a start6a move6a show6a signs6a many6a bestPath6a nextStart6a nextMove6a nextShow6a thrown6_1 rows6 labels6 guesses6 comes6 sizes6 words6 up6 down6 weightAbove6 weightBelow6 told6 length6 behind6 shares6 over6 start6_7 move6_8 show6_9 signs6 many6 bestPath6_10 nextStart6_11 nextMove6_12 nextShow6_13) H → va_D A (w6 cI cJ h6 labels6a guesses6a comes6a sizes6a words6a told6a behind6a shares6a start6a move6a show6a signs6a many6a bestPath6a nextStart6a nextMove6a nextShow6a thrown6_1 rows6 labels6 guesses6 comes6 sizes6 words6 up6 down6 weightAbove6 weightBelow6 told6 length6 behind6 shares6 over6 start6_7 move6_8 show6_9 signs6 many6 bestPath6_10 nextStart6_11 nextMove6_12 nextShow6_13) → va_S A s.heap H locs → lv_has ls 3 [(2, .int y2_6), (0, .ref h6), (1, .int i1)] → (∀ (H : Heap) (locs : List Loc) (ls : Array Slot), va_P D vwK (w6 cI cJ h6 labels6a guesses6a comes6a sizes6a words6a told6a behind6a shares6a start6a move6a show6a signs6a many6a bestPath6a nextStart6a nextMove6a nextShow6a thrown6_1 rows6 labels6 guesses6 comes6 sizes6 words6 up6 down6 weightAbove6 weightBelow6 told6 length6 behind6 shares6 over6 start6_15 move6_16 show6_17 signs6 many6 bestPath6_18 nextStart6_19 nextMove6_20 nextShow6_21) H → va_D A (w6 cI cJ h6 labels6a guesses6a comes6a sizes6a words6a told6a behind6a shares6a start6a move6a show6a signs6a many6a bestPath6a nextStart6a nextMove6a nextShow6a thrown6_1 rows6 labels6 guesses6 comes6 sizes6 words6 up6 down6 weightAbove6 weightBelow6 told6 length6 behind6 shares6 over6 start6_15 move6_16 show6_17 signs6 many6 bestPath6_18 nextStart6_19 nextMove6_20 nextShow6_21) → va_S A s.heap H locs → lv_has ls 3 [(2, .int z2_14)] → W p l e (rmOf 4 98) s m args below meth c H locs 0 0 Q (F0 m 38 ls [])) → W p l e (rmOf 4 98) s m args below meth c H locs 0 0 Q (F0 m 20 ls []) := by
      intro n
      induction n with
      | zero => intro y2_6 start6_7 move6_8 show6_9 bestPath6_10 nextStart6_11 nextMove6_12 nextShow6_13 z2_14 start6_15 move6_16 show6_17 bestPath6_18 nextStart6_19 nextMove6_20 nextShow6_21 h; rw [f_X6_learn_L20.eq_1] at h; cases h
      | succ n ih =>
        intro y2_6 start6_7 move6_8 show6_9 bestPath6_10 nextStart6_11 nextMove6_12 nextShow6_13 z2_14 start6_15 move6_16 show6_17 bestPath6_18 nextStart6_19 nextMove6_20 nextShow6_21 h H locs ls hP hD hS hl K
        rw [f_X6_learn_L20.eq_2] at h
        refine lv_aload_n hx hb dX6_learn_20 rfl (lv_at hl 1 rfl) ?_
        obtain ⟨⟨r_22, start6_23, move6_24, show6_25, bestPath6_26, nextStart6_27, nextMove6_28, nextShow6_29⟩, hc_30, h⟩ := bd_s h
        refine callTi (As := []) (rest := []) ⟨hx, hb, hml, hown, hts⟩ (c_X6_learnt l D cI cJ h6 labels6a guesses6a comes6a sizes6a words6a told6a behind6a shares6a start6a move6a show6a signs6a many6a bestPath6a nextStart6a nextMove6a nextShow6a thrown6_1 rows6 labels6 guesses6 comes6 sizes6 words6 up6 down6 weightAbove6 weightBelow6 told6 length6 behind6 shares6 over6 start6_7 move6_8 show6_9 signs6 many6 bestPath6_10 nextStart6_11 nextMove6_12 nextShow6_13 r_22 start6_23 move6_24 show6_25 bestPath6_26 nextStart6_27 nextMove6_28 nextShow6_29 hc_30) (cwV 0 hts gX6_learn_X6_learnt rfl rfl rfl (by decide +kernel) ⟨Nat.le_of_ble_eq_true rfl, Nat.le_of_ble_eq_true rfl⟩) hK hP hD hS hA 0 5 rfl rfl rfl rfl hl.1 rfl (Nat.le_of_ble_eq_true rfl) dX6_learn_21 ⟨Nat.zero_le _, Nat.zero_le _⟩ (fun H locs hP hD hS => ?_)
        refine lv_if_eq (tgt := 38) hx hb dX6_learn_24 (by decide) (fun c_31 => ?_) (fun c_31 => ?_)
        · have h := it_p c_31 h
          cases h
          exact K _ _ _ hP hD hS (lv_sub hl [0] rfl)
        · have h := it_n c_31 h
          refine lv_iload_n hx hb dX6_learn_27 rfl (lv_at hl 0 rfl) ?_
          refine lv_iload_n hx hb dX6_learn_28 rfl (lv_at hl 2 rfl) ?_
          refine lv_icmp_ge (tgt := 38) hx hb dX6_learn_29 (by decide) (fun c_32 => ?_) (fun c_32 => ?_)
          · have h := it_p c_32 h
            cases h
            exact K _ _ _ hP hD hS (lv_sub hl [0] rfl)
          · have h := it_n c_32 h
            obtain ⟨x2_33, ex2_33⟩ : ∃ z : Int32, z = y2_6 + 1 := ⟨_, rfl⟩
            have h := nm_s h x2_33 ex2_33
            refine lv_iinc (v := x2_33) (lv' := [(2, .int x2_33), (0, .ref h6), (1, .int i1)]) hx hb dX6_learn_32 hl (k := 0) rfl (by rw [ex2_33]; rfl) (by decide) rfl (fun ls hl => ?_)
            refine lv_goto (tgt := 20) hx hb dX6_learn_35 (by decide) ?_
            exact ih _ _ _ _ _ _ _ _ _ _ _ _ _ _ _ _ h _ _ _ hP hD hS (lv_sub hl [0, 1, 2] rfl) K
    obtain ⟨⟨z2_34, start6_35, move6_36, show6_37, bestPath6_38, nextStart6_39, nextMove6_40, nextShow6_41⟩, hl_42, h⟩ := bd_s h
    refine L20 FU x2_5 start6 move6 show6 bestPath6 nextStart6 nextMove6 nextShow6 _ _ _ _ _ _ _ _ hl_42 _ _ _ hP hD hS (lv_sub hl [0, 1, 2] rfl) (fun H locs ls hP hD hS hl => ?_)
    refine lv_iload_n hx hb dX6_learn_38 rfl (lv_at hl 0 rfl) ?_
    cases h
    exact hret _ _ _ _ hP hD hS dX6_learn_39
  · have h := it_p c_4 h
    refine lv_bipush (v := (-2)) hx hb dX6_learn_15 (by decide) ?_
    cases h
    exact hret _ _ _ _ hP hD hS dX6_learn_17
def f_X6_has_L5 (i1 : Int32) (i2 : Int32) (sizes6 : Nat → Int32) (words6 : Nat → Int32) : Nat → Int32 → Int32 → Option (Int32 × Int32)
  | 0, _, _ => none
  | n + 1, y4_3, y3_4 =>
  gA 40 sizes6 i1 fun v_8 =>
  if v_8 ≤ y4_3 then
    some (y4_3, y3_4)
  else
    if y3_4 = 0 then
      gA 240 words6 ((6 * i1) + y4_3) fun v_12 =>
      if v_12 = i2 then
        nm (α := Int32) (1) fun x3_16 =>
        nm (α := Int32) (y4_3 + 1) fun x4_17 =>
        f_X6_has_L5 i1 i2 sizes6 words6 n x4_17 x3_16
      else
        nm (α := Int32) (0) fun x3_14 =>
        nm (α := Int32) (y4_3 + 1) fun x4_15 =>
        f_X6_has_L5 i1 i2 sizes6 words6 n x4_15 x3_14
    else
      some (y4_3, y3_4)
def f_X6_has (i1 : Int32) (i2 : Int32) (sizes6 : Nat → Int32) (words6 : Nat → Int32) : Option (Int32) :=
  nm (α := Int32) (0) fun x3_1 =>
  nm (α := Int32) (0) fun x4_2 =>
  Option.bind (f_X6_has_L5 i1 i2 sizes6 words6 FU x4_2 x3_1) fun (z4_18, z3_19) =>
  bz z3_19 <|
  some z3_19
set_option maxHeartbeats 4000000 in
set_option maxRecDepth 100000 in
theorem c_X6_has (l : Launch) (D : va_G) (cI cJ : ClassId) (h6 labels6a guesses6a comes6a sizes6a words6a told6a behind6a shares6a start6a move6a show6a signs6a many6a bestPath6a nextStart6a nextMove6a nextShow6a : Nat) (thrown6 : Int32) (rows6 : Int32) (labels6 : Nat → Int32) (guesses6 : Nat → Int32) (comes6 : Nat → Int32) (sizes6 : Nat → Int32) (words6 : Nat → Int32) (up6 : Int32) (down6 : Int32) (weightAbove6 : Int64) (weightBelow6 : Int64) (told6 : Nat → Int32) (length6 : Int32) (behind6 : Nat → Int32) (shares6 : Nat → Int64) (over6 : Int64) (start6 : Nat → Int32) (move6 : Nat → Int32) (show6 : Nat → Int32) (signs6 : Nat → Int32) (many6 : Nat → Int32) (bestPath6 : Nat → Int32) (nextStart6 : Nat → Int32) (nextMove6 : Nat → Int32) (nextShow6 : Nat → Int32) (i1 : Int32) (i2 : Int32) (ret9 : Int32) (h : f_X6_has i1 i2 sizes6 words6 = some ret9) : CI l D cI cJ yX6_has wsX6_has 0 0 [.ref h6, .int i1, .int i2] (w6 cI cJ h6 labels6a guesses6a comes6a sizes6a words6a told6a behind6a shares6a start6a move6a show6a signs6a many6a bestPath6a nextStart6a nextMove6a nextShow6a thrown6 rows6 labels6 guesses6 comes6 sizes6 words6 up6 down6 weightAbove6 weightBelow6 told6 length6 behind6 shares6 over6 start6 move6 show6 signs6 many6 bestPath6 nextStart6 nextMove6 nextShow6) (w6 cI cJ h6 labels6a guesses6a comes6a sizes6a words6a told6a behind6a shares6a start6a move6a show6a signs6a many6a bestPath6a nextStart6a nextMove6a nextShow6a thrown6 rows6 labels6 guesses6 comes6 sizes6 words6 up6 down6 weightAbove6 weightBelow6 told6 length6 behind6 shares6 over6 start6 move6 show6 signs6 many6 bestPath6 nextStart6 nextMove6 nextShow6) ret9 := by
  refine entZ (cc := cX6_has) (maxL := 5) (by decide) rfl (Nat.le_of_ble_eq_true rfl) ?_
  intro p e s m args below meth c ls A Q X hret
  obtain ⟨hx, hb, hml, hts, hown, hK, hA, hP, hD, hS, hl, hnm⟩ := X
  have hown : s.vm.findClass RX6 = some m.cls := hown
  have hl : lv_has ls 5 [(0, .ref h6), (1, .int i1), (2, .int i2)] := hl
  have hw1 : (Cond.fieldLink RX6 19 "CountLearnersModel" "sizes" "[I").before args s = true := hts _ (by decide +kernel)
  have hinX6 : ∀ w ∈ wsX60, w ∈ wsX6_has := by decide +kernel
  have hw3 : (Cond.fieldLink RX6 22 "CountLearnersModel" "words" "[I").before args s = true := hts _ (by decide +kernel)
  unfold f_X6_has at h
  refine lv_iconst (v := 0) hx hb dX6_has_0 (by decide) ?_
  refine lv_topi (fun x3_1 ex3_1 => ?_)
  have h := nm_s h x3_1 ex3_1
  refine lv_istore_n (lv' := [(3, .int x3_1), (0, .ref h6), (1, .int i1), (2, .int i2)]) hx hb dX6_has_1 rfl hl (by decide) rfl (fun ls hl => ?_)
  refine lv_iconst (v := 0) hx hb dX6_has_2 (by decide) ?_
  refine lv_topi (fun x4_2 ex4_2 => ?_)
  have h := nm_s h x4_2 ex4_2
  refine lv_istore (lv' := [(4, .int x4_2), (3, .int x3_1), (0, .ref h6), (1, .int i1), (2, .int i2)]) hx hb dX6_has_3 hl (by decide) rfl (fun ls hl => ?_)
  have L5 : ∀ (n : Nat) (y4_3 : Int32) (y3_4 : Int32) (z4_5 : Int32) (z3_6 : Int32), f_X6_has_L5 i1 i2 sizes6 words6 n y4_3 y3_4 = some (z4_5, z3_6) → ∀ (H : Heap) (locs : List Loc) (ls : Array Slot), va_P D vwK (w6 cI cJ h6 labels6a guesses6a comes6a sizes6a words6a told6a behind6a shares6a start6a move6a show6a signs6a many6a bestPath6a nextStart6a nextMove6a nextShow6a thrown6 rows6 labels6 guesses6 comes6 sizes6 words6 up6 down6 weightAbove6 weightBelow6 told6 length6 behind6 shares6 over6 start6 move6 show6 signs6 many6 bestPath6 nextStart6 nextMove6 nextShow6) H → va_D A (w6 cI cJ h6 labels6a guesses6a comes6a sizes6a words6a told6a behind6a shares6a start6a move6a show6a signs6a many6a bestPath6a nextStart6a nextMove6a nextShow6a thrown6 rows6 labels6 guesses6 comes6 sizes6 words6 up6 down6 weightAbove6 weightBelow6 told6 length6 behind6 shares6 over6 start6 move6 show6 signs6 many6 bestPath6 nextStart6 nextMove6 nextShow6) → va_S A s.heap H locs → lv_has ls 5 [(4, .int y4_3), (3, .int y3_4), (0, .ref h6), (1, .int i1), (2, .int i2)] → (∀ (H : Heap) (locs : List Loc) (ls : Array Slot), va_P D vwK (w6 cI cJ h6 labels6a guesses6a comes6a sizes6a words6a told6a behind6a shares6a start6a move6a show6a signs6a many6a bestPath6a nextStart6a nextMove6a nextShow6a thrown6 rows6 labels6 guesses6 comes6 sizes6 words6 up6 down6 weightAbove6 weightBelow6 told6 length6 behind6 shares6 over6 start6 move6 show6 signs6 many6 bestPath6 nextStart6 nextMove6 nextShow6) H → va_D A (w6 cI cJ h6 labels6a guesses6a comes6a sizes6a words6a told6a behind6a shares6a start6a move6a show6a signs6a many6a bestPath6a nextStart6a nextMove6a nextShow6a thrown6 rows6 labels6 guesses6 comes6 sizes6 words6 up6 down6 weightAbove6 weightBelow6 told6 length6 behind6 shares6 over6 start6 move6 show6 signs6 many6 bestPath6 nextStart6 nextMove6 nextShow6) → va_S A s.heap H locs → lv_has ls 5 [(3, .int z3_6)] → W p l e (rmOf 0 0) s m args below meth c H locs 0 0 Q (F0 m 48 ls [])) → W p l e (rmOf 0 0) s m args below meth c H locs 0 0 Q (F0 m 5 ls []) := by
    intro n
    induction n with
    | zero => intro y4_3 y3_4 z4_5 z3_6 h; rw [f_X6_has_L5.eq_1] at h; cases h
    | succ n ih =>
      intro y4_3 y3_4 z4_5 z3_6 h H locs ls hP hD hS hl K
      rw [f_X6_has_L5.eq_2] at h
      refine lv_iload hx hb dX6_has_5 (lv_at hl 0 rfl) ?_
      refine lv_aload_n hx hb dX6_has_7 rfl (lv_at hl 2 rfl) ?_
      refine va_get (D := D) (ci := 5) (v := .ref sizes6a) (C := RX6) (T := TX6) (N := 25) hx hb hts hinX6 hown hK.1 hP 0 rfl rfl 5 (by decide) hw1 (fun _ h9 => h9) rfl dX6_has_8 ?_
      refine lv_iload_n hx hb dX6_has_11 rfl (lv_at hl 3 rfl) ?_
      obtain ⟨hi_7, h⟩ := gA_s h
      refine va_iald hx hb hK.1 hP 4 0 rfl rfl hi_7 dX6_has_12 ?_
      refine lv_topi (fun v_8 ev_8 => ?_)
      have h := h v_8 ev_8
      refine lv_icmp_ge (tgt := 48) hx hb dX6_has_13 (by decide) (fun c_9 => ?_) (fun c_9 => ?_)
      · have h := it_p c_9 h
        cases h
        exact K _ _ _ hP hD hS (lv_sub hl [1] rfl)
      · have h := it_n c_9 h
        refine lv_iload_n hx hb dX6_has_16 rfl (lv_at hl 1 rfl) ?_
        refine lv_if_ne (tgt := 48) hx hb dX6_has_17 (by decide) (fun c_10 => ?_) (fun c_10 => ?_)
        · have h := it_n c_10 h
          cases h
          exact K _ _ _ hP hD hS (lv_sub hl [1] rfl)
        · have h := it_p c_10 h
          refine lv_aload_n hx hb dX6_has_20 rfl (lv_at hl 2 rfl) ?_
          refine va_get (D := D) (ci := 5) (v := .ref words6a) (C := RX6) (T := TX6) (N := 25) hx hb hts hinX6 hown hK.1 hP 0 rfl rfl 6 (by decide) hw3 (fun _ h9 => h9) rfl dX6_has_21 ?_
          refine lv_bipush (v := 6) hx hb dX6_has_24 (by decide) ?_
          refine lv_iload_n hx hb dX6_has_26 rfl (lv_at hl 3 rfl) ?_
          refine lv_imul hx hb dX6_has_27 ?_
          refine lv_iload hx hb dX6_has_28 (lv_at hl 0 rfl) ?_
          refine lv_iadd hx hb dX6_has_30 ?_
          obtain ⟨hi_11, h⟩ := gA_s h
          refine va_iald hx hb hK.1 hP 5 0 rfl rfl hi_11 dX6_has_31 ?_
          refine lv_topi (fun v_12 ev_12 => ?_)
          have h := h v_12 ev_12
          refine lv_iload_n hx hb dX6_has_32 rfl (lv_at hl 4 rfl) ?_
          refine lv_icmp_ne (tgt := 40) hx hb dX6_has_33 (by decide) (fun c_13 => ?_) (fun c_13 => ?_)
          · have h := it_n c_13 h
            refine lv_iconst (v := 0) hx hb dX6_has_40 (by decide) ?_
            refine lv_topi (fun x3_14 ex3_14 => ?_)
            have h := nm_s h x3_14 ex3_14
            refine lv_istore_n (lv' := [(3, .int x3_14), (4, .int y4_3), (0, .ref h6), (1, .int i1), (2, .int i2)]) hx hb dX6_has_41 rfl hl (by decide) rfl (fun ls hl => ?_)
            obtain ⟨x4_15, ex4_15⟩ : ∃ z : Int32, z = y4_3 + 1 := ⟨_, rfl⟩
            have h := nm_s h x4_15 ex4_15
            refine lv_iinc (v := x4_15) (lv' := [(4, .int x4_15), (3, .int x3_14), (0, .ref h6), (1, .int i1), (2, .int i2)]) hx hb dX6_has_42 hl (k := 1) rfl (by rw [ex4_15]; rfl) (by decide) rfl (fun ls hl => ?_)
            refine lv_goto (tgt := 5) hx hb dX6_has_45 (by decide) ?_
            exact ih _ _ _ _ h _ _ _ hP hD hS (lv_sub hl [0, 1, 2, 3, 4] rfl) K
          · have h := it_p c_13 h
            refine lv_iconst (v := 1) hx hb dX6_has_36 (by decide) ?_
            refine lv_goto (tgt := 41) hx hb dX6_has_37 (by decide) ?_
            refine lv_topi (fun x3_16 ex3_16 => ?_)
            have h := nm_s h x3_16 ex3_16
            refine lv_istore_n (lv' := [(3, .int x3_16), (4, .int y4_3), (0, .ref h6), (1, .int i1), (2, .int i2)]) hx hb dX6_has_41 rfl hl (by decide) rfl (fun ls hl => ?_)
            obtain ⟨x4_17, ex4_17⟩ : ∃ z : Int32, z = y4_3 + 1 := ⟨_, rfl⟩
            have h := nm_s h x4_17 ex4_17
            refine lv_iinc (v := x4_17) (lv' := [(4, .int x4_17), (3, .int x3_16), (0, .ref h6), (1, .int i1), (2, .int i2)]) hx hb dX6_has_42 hl (k := 1) rfl (by rw [ex4_17]; rfl) (by decide) rfl (fun ls hl => ?_)
            refine lv_goto (tgt := 5) hx hb dX6_has_45 (by decide) ?_
            exact ih _ _ _ _ h _ _ _ hP hD hS (lv_sub hl [0, 1, 2, 3, 4] rfl) K
  obtain ⟨⟨z4_18, z3_19⟩, hl_20, h⟩ := bd_s h
  refine L5 FU x4_2 x3_1 _ _ hl_20 _ _ _ hP hD hS (lv_sub hl [0, 1, 2, 3, 4] rfl) (fun H locs ls hP hD hS hl => ?_)
  refine lv_iload_n hx hb dX6_has_48 rfl (lv_at hl 0 rfl) ?_
  obtain ⟨hz_21, h⟩ := bz_s h
  cases h
  exact hret _ _ _ _ hz_21 hP hD hS dX6_has_49
def f_X6_support_L5 (i1 : Int32) (i2 : Int32) (rows6 : Int32) (sizes6 : Nat → Int32) (words6 : Nat → Int32) : Nat → Int32 → Int32 → Option (Int32 × Int32)
  | 0, _, _ => none
  | n + 1, y4_3, y3_4 =>
  if rows6 ≤ y4_3 then
    some (y4_3, y3_4)
  else
    Option.bind (f_X6_has y4_3 i1 sizes6 words6) fun r_8 =>
    if r_8 = 0 then
      nm (α := Int32) ((y3_4 + 0)) fun x3_11 =>
      nm (α := Int32) (y4_3 + 1) fun x4_12 =>
      f_X6_support_L5 i1 i2 rows6 sizes6 words6 n x4_12 x3_11
    else
      Option.bind (f_X6_has y4_3 i2 sizes6 words6) fun r_13 =>
      if r_13 = 0 then
        nm (α := Int32) ((y3_4 + 0)) fun x3_16 =>
        nm (α := Int32) (y4_3 + 1) fun x4_17 =>
        f_X6_support_L5 i1 i2 rows6 sizes6 words6 n x4_17 x3_16
      else
        nm (α := Int32) ((y3_4 + 1)) fun x3_18 =>
        nm (α := Int32) (y4_3 + 1) fun x4_19 =>
        f_X6_support_L5 i1 i2 rows6 sizes6 words6 n x4_19 x3_18
def f_X6_support (i1 : Int32) (i2 : Int32) (rows6 : Int32) (sizes6 : Nat → Int32) (words6 : Nat → Int32) : Option (Int32) :=
  nm (α := Int32) (0) fun x3_1 =>
  nm (α := Int32) (0) fun x4_2 =>
  Option.bind (f_X6_support_L5 i1 i2 rows6 sizes6 words6 FU x4_2 x3_1) fun (z4_20, z3_21) =>
  some z3_21
set_option maxHeartbeats 4000000 in
set_option maxRecDepth 100000 in
theorem c_X6_support (l : Launch) (D : va_G) (cI cJ : ClassId) (h6 labels6a guesses6a comes6a sizes6a words6a told6a behind6a shares6a start6a move6a show6a signs6a many6a bestPath6a nextStart6a nextMove6a nextShow6a : Nat) (thrown6 : Int32) (rows6 : Int32) (labels6 : Nat → Int32) (guesses6 : Nat → Int32) (comes6 : Nat → Int32) (sizes6 : Nat → Int32) (words6 : Nat → Int32) (up6 : Int32) (down6 : Int32) (weightAbove6 : Int64) (weightBelow6 : Int64) (told6 : Nat → Int32) (length6 : Int32) (behind6 : Nat → Int32) (shares6 : Nat → Int64) (over6 : Int64) (start6 : Nat → Int32) (move6 : Nat → Int32) (show6 : Nat → Int32) (signs6 : Nat → Int32) (many6 : Nat → Int32) (bestPath6 : Nat → Int32) (nextStart6 : Nat → Int32) (nextMove6 : Nat → Int32) (nextShow6 : Nat → Int32) (i1 : Int32) (i2 : Int32) (ret9 : Int32) (h : f_X6_support i1 i2 rows6 sizes6 words6 = some ret9) : CI l D cI cJ yX6_support wsX6_support 1 24 [.ref h6, .int i1, .int i2] (w6 cI cJ h6 labels6a guesses6a comes6a sizes6a words6a told6a behind6a shares6a start6a move6a show6a signs6a many6a bestPath6a nextStart6a nextMove6a nextShow6a thrown6 rows6 labels6 guesses6 comes6 sizes6 words6 up6 down6 weightAbove6 weightBelow6 told6 length6 behind6 shares6 over6 start6 move6 show6 signs6 many6 bestPath6 nextStart6 nextMove6 nextShow6) (w6 cI cJ h6 labels6a guesses6a comes6a sizes6a words6a told6a behind6a shares6a start6a move6a show6a signs6a many6a bestPath6a nextStart6a nextMove6a nextShow6a thrown6 rows6 labels6 guesses6 comes6 sizes6 words6 up6 down6 weightAbove6 weightBelow6 told6 length6 behind6 shares6 over6 start6 move6 show6 signs6 many6 bestPath6 nextStart6 nextMove6 nextShow6) ret9 := by
  refine entI (cc := cX6_support) (maxL := 5) (by decide) rfl (Nat.le_of_ble_eq_true rfl) ?_
  intro p e s m args below meth c ls A Q X hret
  obtain ⟨hx, hb, hml, hts, hown, hK, hA, hP, hD, hS, hl, hnm⟩ := X
  have hown : s.vm.findClass RX6 = some m.cls := hown
  have hl : lv_has ls 5 [(0, .ref h6), (1, .int i1), (2, .int i2)] := hl
  have hw1 : (Cond.fieldLink RX6 76 "CountLearnersModel" "rows" "I").before args s = true := hts _ (by decide +kernel)
  have hinX6 : ∀ w ∈ wsX60, w ∈ wsX6_support := by decide +kernel
  unfold f_X6_support at h
  refine lv_iconst (v := 0) hx hb dX6_support_0 (by decide) ?_
  refine lv_topi (fun x3_1 ex3_1 => ?_)
  have h := nm_s h x3_1 ex3_1
  refine lv_istore_n (lv' := [(3, .int x3_1), (0, .ref h6), (1, .int i1), (2, .int i2)]) hx hb dX6_support_1 rfl hl (by decide) rfl (fun ls hl => ?_)
  refine lv_iconst (v := 0) hx hb dX6_support_2 (by decide) ?_
  refine lv_topi (fun x4_2 ex4_2 => ?_)
  have h := nm_s h x4_2 ex4_2
  refine lv_istore (lv' := [(4, .int x4_2), (3, .int x3_1), (0, .ref h6), (1, .int i1), (2, .int i2)]) hx hb dX6_support_3 hl (by decide) rfl (fun ls hl => ?_)
  have L5 : ∀ (n : Nat) (y4_3 : Int32) (y3_4 : Int32) (z4_5 : Int32) (z3_6 : Int32), f_X6_support_L5 i1 i2 rows6 sizes6 words6 n y4_3 y3_4 = some (z4_5, z3_6) → ∀ (H : Heap) (locs : List Loc) (ls : Array Slot), va_P D vwK (w6 cI cJ h6 labels6a guesses6a comes6a sizes6a words6a told6a behind6a shares6a start6a move6a show6a signs6a many6a bestPath6a nextStart6a nextMove6a nextShow6a thrown6 rows6 labels6 guesses6 comes6 sizes6 words6 up6 down6 weightAbove6 weightBelow6 told6 length6 behind6 shares6 over6 start6 move6 show6 signs6 many6 bestPath6 nextStart6 nextMove6 nextShow6) H → va_D A (w6 cI cJ h6 labels6a guesses6a comes6a sizes6a words6a told6a behind6a shares6a start6a move6a show6a signs6a many6a bestPath6a nextStart6a nextMove6a nextShow6a thrown6 rows6 labels6 guesses6 comes6 sizes6 words6 up6 down6 weightAbove6 weightBelow6 told6 length6 behind6 shares6 over6 start6 move6 show6 signs6 many6 bestPath6 nextStart6 nextMove6 nextShow6) → va_S A s.heap H locs → lv_has ls 5 [(4, .int y4_3), (3, .int y3_4), (0, .ref h6), (1, .int i1), (2, .int i2)] → (∀ (H : Heap) (locs : List Loc) (ls : Array Slot), va_P D vwK (w6 cI cJ h6 labels6a guesses6a comes6a sizes6a words6a told6a behind6a shares6a start6a move6a show6a signs6a many6a bestPath6a nextStart6a nextMove6a nextShow6a thrown6 rows6 labels6 guesses6 comes6 sizes6 words6 up6 down6 weightAbove6 weightBelow6 told6 length6 behind6 shares6 over6 start6 move6 show6 signs6 many6 bestPath6 nextStart6 nextMove6 nextShow6) H → va_D A (w6 cI cJ h6 labels6a guesses6a comes6a sizes6a words6a told6a behind6a shares6a start6a move6a show6a signs6a many6a bestPath6a nextStart6a nextMove6a nextShow6a thrown6 rows6 labels6 guesses6 comes6 sizes6 words6 up6 down6 weightAbove6 weightBelow6 told6 length6 behind6 shares6 over6 start6 move6 show6 signs6 many6 bestPath6 nextStart6 nextMove6 nextShow6) → va_S A s.heap H locs → lv_has ls 5 [(3, .int z3_6)] → W p l e (rmOf 1 24) s m args below meth c H locs 0 0 Q (F0 m 48 ls [])) → W p l e (rmOf 1 24) s m args below meth c H locs 0 0 Q (F0 m 5 ls []) := by
    intro n
    induction n with
    | zero => intro y4_3 y3_4 z4_5 z3_6 h; rw [f_X6_support_L5.eq_1] at h; cases h
    | succ n ih =>
      intro y4_3 y3_4 z4_5 z3_6 h H locs ls hP hD hS hl K
      rw [f_X6_support_L5.eq_2] at h
      refine lv_iload hx hb dX6_support_5 (lv_at hl 0 rfl) ?_
      refine lv_aload_n hx hb dX6_support_7 rfl (lv_at hl 2 rfl) ?_
      refine va_get (D := D) (ci := 5) (v := .int rows6) (C := RX6) (T := TX6) (N := 25) hx hb hts hinX6 hown hK.1 hP 0 rfl rfl 1 (by decide) hw1 (fun _ h9 => h9) rfl dX6_support_8 ?_
      refine lv_icmp_ge (tgt := 48) hx hb dX6_support_11 (by decide) (fun c_7 => ?_) (fun c_7 => ?_)
      · have h := it_p c_7 h
        cases h
        exact K _ _ _ hP hD hS (lv_sub hl [1] rfl)
      · have h := it_n c_7 h
        refine lv_iload_n hx hb dX6_support_14 rfl (lv_at hl 1 rfl) ?_
        refine lv_aload_n hx hb dX6_support_15 rfl (lv_at hl 2 rfl) ?_
        refine lv_iload hx hb dX6_support_16 (lv_at hl 0 rfl) ?_
        refine lv_iload_n hx hb dX6_support_18 rfl (lv_at hl 3 rfl) ?_
        obtain ⟨r_8, hc_9, h⟩ := bd_s h
        refine callTi (As := [.int y4_3, .int i1]) (rest := [.int y3_4]) ⟨hx, hb, hml, hown, hts⟩ (c_X6_has l D cI cJ h6 labels6a guesses6a comes6a sizes6a words6a told6a behind6a shares6a start6a move6a show6a signs6a many6a bestPath6a nextStart6a nextMove6a nextShow6a thrown6 rows6 labels6 guesses6 comes6 sizes6 words6 up6 down6 weightAbove6 weightBelow6 told6 length6 behind6 shares6 over6 start6 move6 show6 signs6 many6 bestPath6 nextStart6 nextMove6 nextShow6 y4_3 i1 r_8 hc_9) (cwV 2 hts gX6_support_X6_has rfl rfl rfl (by decide +kernel) ⟨Nat.le_of_ble_eq_true rfl, Nat.le_of_ble_eq_true rfl⟩) hK hP hD hS hA 0 5 rfl rfl rfl rfl hl.1 rfl (Nat.le_of_ble_eq_true rfl) dX6_support_19 ⟨Nat.zero_le _, Nat.zero_le _⟩ (fun H locs hP hD hS => ?_)
        refine lv_if_eq (tgt := 39) hx hb dX6_support_22 (by decide) (fun c_10 => ?_) (fun c_10 => ?_)
        · have h := it_p c_10 h
          refine lv_iconst (v := 0) hx hb dX6_support_39 (by decide) ?_
          refine lv_iadd hx hb dX6_support_40 ?_
          refine lv_topi (fun x3_11 ex3_11 => ?_)
          have h := nm_s h x3_11 ex3_11
          refine lv_istore_n (lv' := [(3, .int x3_11), (4, .int y4_3), (0, .ref h6), (1, .int i1), (2, .int i2)]) hx hb dX6_support_41 rfl hl (by decide) rfl (fun ls hl => ?_)
          obtain ⟨x4_12, ex4_12⟩ : ∃ z : Int32, z = y4_3 + 1 := ⟨_, rfl⟩
          have h := nm_s h x4_12 ex4_12
          refine lv_iinc (v := x4_12) (lv' := [(4, .int x4_12), (3, .int x3_11), (0, .ref h6), (1, .int i1), (2, .int i2)]) hx hb dX6_support_42 hl (k := 1) rfl (by rw [ex4_12]; rfl) (by decide) rfl (fun ls hl => ?_)
          refine lv_goto (tgt := 5) hx hb dX6_support_45 (by decide) ?_
          exact ih _ _ _ _ h _ _ _ hP hD hS (lv_sub hl [0, 1, 2, 3, 4] rfl) K
        · have h := it_n c_10 h
          refine lv_aload_n hx hb dX6_support_25 rfl (lv_at hl 2 rfl) ?_
          refine lv_iload hx hb dX6_support_26 (lv_at hl 0 rfl) ?_
          refine lv_iload_n hx hb dX6_support_28 rfl (lv_at hl 4 rfl) ?_
          obtain ⟨r_13, hc_14, h⟩ := bd_s h
          refine callTi (As := [.int y4_3, .int i2]) (rest := [.int y3_4]) ⟨hx, hb, hml, hown, hts⟩ (c_X6_has l D cI cJ h6 labels6a guesses6a comes6a sizes6a words6a told6a behind6a shares6a start6a move6a show6a signs6a many6a bestPath6a nextStart6a nextMove6a nextShow6a thrown6 rows6 labels6 guesses6 comes6 sizes6 words6 up6 down6 weightAbove6 weightBelow6 told6 length6 behind6 shares6 over6 start6 move6 show6 signs6 many6 bestPath6 nextStart6 nextMove6 nextShow6 y4_3 i2 r_13 hc_14) (cwV 2 hts gX6_support_X6_has rfl rfl rfl (by decide +kernel) ⟨Nat.le_of_ble_eq_true rfl, Nat.le_of_ble_eq_true rfl⟩) hK hP hD hS hA 0 5 rfl rfl rfl rfl hl.1 rfl (Nat.le_of_ble_eq_true rfl) dX6_support_29 ⟨Nat.zero_le _, Nat.zero_le _⟩ (fun H locs hP hD hS => ?_)
          refine lv_if_eq (tgt := 39) hx hb dX6_support_32 (by decide) (fun c_15 => ?_) (fun c_15 => ?_)
          · have h := it_p c_15 h
            refine lv_iconst (v := 0) hx hb dX6_support_39 (by decide) ?_
            refine lv_iadd hx hb dX6_support_40 ?_
            refine lv_topi (fun x3_16 ex3_16 => ?_)
            have h := nm_s h x3_16 ex3_16
            refine lv_istore_n (lv' := [(3, .int x3_16), (4, .int y4_3), (0, .ref h6), (1, .int i1), (2, .int i2)]) hx hb dX6_support_41 rfl hl (by decide) rfl (fun ls hl => ?_)
            obtain ⟨x4_17, ex4_17⟩ : ∃ z : Int32, z = y4_3 + 1 := ⟨_, rfl⟩
            have h := nm_s h x4_17 ex4_17
            refine lv_iinc (v := x4_17) (lv' := [(4, .int x4_17), (3, .int x3_16), (0, .ref h6), (1, .int i1), (2, .int i2)]) hx hb dX6_support_42 hl (k := 1) rfl (by rw [ex4_17]; rfl) (by decide) rfl (fun ls hl => ?_)
            refine lv_goto (tgt := 5) hx hb dX6_support_45 (by decide) ?_
            exact ih _ _ _ _ h _ _ _ hP hD hS (lv_sub hl [0, 1, 2, 3, 4] rfl) K
          · have h := it_n c_15 h
            refine lv_iconst (v := 1) hx hb dX6_support_35 (by decide) ?_
            refine lv_goto (tgt := 40) hx hb dX6_support_36 (by decide) ?_
            refine lv_iadd hx hb dX6_support_40 ?_
            refine lv_topi (fun x3_18 ex3_18 => ?_)
            have h := nm_s h x3_18 ex3_18
            refine lv_istore_n (lv' := [(3, .int x3_18), (4, .int y4_3), (0, .ref h6), (1, .int i1), (2, .int i2)]) hx hb dX6_support_41 rfl hl (by decide) rfl (fun ls hl => ?_)
            obtain ⟨x4_19, ex4_19⟩ : ∃ z : Int32, z = y4_3 + 1 := ⟨_, rfl⟩
            have h := nm_s h x4_19 ex4_19
            refine lv_iinc (v := x4_19) (lv' := [(4, .int x4_19), (3, .int x3_18), (0, .ref h6), (1, .int i1), (2, .int i2)]) hx hb dX6_support_42 hl (k := 1) rfl (by rw [ex4_19]; rfl) (by decide) rfl (fun ls hl => ?_)
            refine lv_goto (tgt := 5) hx hb dX6_support_45 (by decide) ?_
            exact ih _ _ _ _ h _ _ _ hP hD hS (lv_sub hl [0, 1, 2, 3, 4] rfl) K
  obtain ⟨⟨z4_20, z3_21⟩, hl_22, h⟩ := bd_s h
  refine L5 FU x4_2 x3_1 _ _ hl_22 _ _ _ hP hD hS (lv_sub hl [0, 1, 2, 3, 4] rfl) (fun H locs ls hP hD hS hl => ?_)
  refine lv_iload_n hx hb dX6_support_48 rfl (lv_at hl 0 rfl) ?_
  cases h
  exact hret _ _ _ _ hP hD hS dX6_support_49
def f_X6_isRule (i1 : Int32) (rows6 : Int32) (sizes6 : Nat → Int32) (words6 : Nat → Int32) : Option (Int32) :=
  dz 8 <|
  dz 8 <|
  if (i1 / 8) = (i1 - i1 / 8 * 8) then
    some 0
  else
    dz 8 <|
    dz 8 <|
    Option.bind (f_X6_support (i1 / 8) (i1 - i1 / 8 * 8) rows6 sizes6 words6) fun r_6 =>
    if r_6 ≤ 0 then
      some 0
    else
      some 1
set_option maxHeartbeats 4000000 in
set_option maxRecDepth 100000 in
theorem c_X6_isRule (l : Launch) (D : va_G) (cI cJ : ClassId) (h6 labels6a guesses6a comes6a sizes6a words6a told6a behind6a shares6a start6a move6a show6a signs6a many6a bestPath6a nextStart6a nextMove6a nextShow6a : Nat) (thrown6 : Int32) (rows6 : Int32) (labels6 : Nat → Int32) (guesses6 : Nat → Int32) (comes6 : Nat → Int32) (sizes6 : Nat → Int32) (words6 : Nat → Int32) (up6 : Int32) (down6 : Int32) (weightAbove6 : Int64) (weightBelow6 : Int64) (told6 : Nat → Int32) (length6 : Int32) (behind6 : Nat → Int32) (shares6 : Nat → Int64) (over6 : Int64) (start6 : Nat → Int32) (move6 : Nat → Int32) (show6 : Nat → Int32) (signs6 : Nat → Int32) (many6 : Nat → Int32) (bestPath6 : Nat → Int32) (nextStart6 : Nat → Int32) (nextMove6 : Nat → Int32) (nextShow6 : Nat → Int32) (i1 : Int32) (ret9 : Int32) (h : f_X6_isRule i1 rows6 sizes6 words6 = some ret9) : CI l D cI cJ yX6_isRule wsX6_isRule 2 48 [.ref h6, .int i1] (w6 cI cJ h6 labels6a guesses6a comes6a sizes6a words6a told6a behind6a shares6a start6a move6a show6a signs6a many6a bestPath6a nextStart6a nextMove6a nextShow6a thrown6 rows6 labels6 guesses6 comes6 sizes6 words6 up6 down6 weightAbove6 weightBelow6 told6 length6 behind6 shares6 over6 start6 move6 show6 signs6 many6 bestPath6 nextStart6 nextMove6 nextShow6) (w6 cI cJ h6 labels6a guesses6a comes6a sizes6a words6a told6a behind6a shares6a start6a move6a show6a signs6a many6a bestPath6a nextStart6a nextMove6a nextShow6a thrown6 rows6 labels6 guesses6 comes6 sizes6 words6 up6 down6 weightAbove6 weightBelow6 told6 length6 behind6 shares6 over6 start6 move6 show6 signs6 many6 bestPath6 nextStart6 nextMove6 nextShow6) ret9 := by
  refine entZ (cc := cX6_isRule) (maxL := 2) (by decide) rfl (Nat.le_of_ble_eq_true rfl) ?_
  intro p e s m args below meth c ls A Q X hret
  obtain ⟨hx, hb, hml, hts, hown, hK, hA, hP, hD, hS, hl, hnm⟩ := X
  have hown : s.vm.findClass RX6 = some m.cls := hown
  have hl : lv_has ls 2 [(0, .ref h6), (1, .int i1)] := hl
  unfold f_X6_isRule at h
  refine lv_iload_n hx hb dX6_isRule_0 rfl (lv_at hl 1 rfl) ?_
  refine lv_bipush (v := 8) hx hb dX6_isRule_1 (by decide) ?_
  obtain ⟨hz_1, h⟩ := dz_s h
  refine lv_idiv hx hb dX6_isRule_3 hz_1 ?_
  refine lv_iload_n hx hb dX6_isRule_4 rfl (lv_at hl 1 rfl) ?_
  refine lv_bipush (v := 8) hx hb dX6_isRule_5 (by decide) ?_
  obtain ⟨hz_2, h⟩ := dz_s h
  refine lv_irem hx hb dX6_isRule_7 hz_2 ?_
  refine lv_icmp_eq (tgt := 30) hx hb dX6_isRule_8 (by decide) (fun c_3 => ?_) (fun c_3 => ?_)
  · have h := it_p c_3 h
    refine lv_iconst (v := 0) hx hb dX6_isRule_30 (by decide) ?_
    cases h
    exact hret _ _ _ _ (Or.inl rfl) hP hD hS dX6_isRule_31
  · have h := it_n c_3 h
    refine lv_aload_n hx hb dX6_isRule_11 rfl (lv_at hl 0 rfl) ?_
    refine lv_iload_n hx hb dX6_isRule_12 rfl (lv_at hl 1 rfl) ?_
    refine lv_bipush (v := 8) hx hb dX6_isRule_13 (by decide) ?_
    obtain ⟨hz_4, h⟩ := dz_s h
    refine lv_idiv hx hb dX6_isRule_15 hz_4 ?_
    refine lv_iload_n hx hb dX6_isRule_16 rfl (lv_at hl 1 rfl) ?_
    refine lv_bipush (v := 8) hx hb dX6_isRule_17 (by decide) ?_
    obtain ⟨hz_5, h⟩ := dz_s h
    refine lv_irem hx hb dX6_isRule_19 hz_5 ?_
    obtain ⟨r_6, hc_7, h⟩ := bd_s h
    refine callTi (As := [.int (i1 / 8), .int (i1 - i1 / 8 * 8)]) (rest := []) ⟨hx, hb, hml, hown, hts⟩ (c_X6_support l D cI cJ h6 labels6a guesses6a comes6a sizes6a words6a told6a behind6a shares6a start6a move6a show6a signs6a many6a bestPath6a nextStart6a nextMove6a nextShow6a thrown6 rows6 labels6 guesses6 comes6 sizes6 words6 up6 down6 weightAbove6 weightBelow6 told6 length6 behind6 shares6 over6 start6 move6 show6 signs6 many6 bestPath6 nextStart6 nextMove6 nextShow6 (i1 / 8) (i1 - i1 / 8 * 8) r_6 hc_7) (cwV 2 hts gX6_isRule_X6_support rfl rfl rfl (by decide +kernel) ⟨Nat.le_of_ble_eq_true rfl, Nat.le_of_ble_eq_true rfl⟩) hK hP hD hS hA 0 5 rfl rfl rfl rfl hl.1 rfl (Nat.le_of_ble_eq_true rfl) dX6_isRule_20 ⟨Nat.zero_le _, Nat.zero_le _⟩ (fun H locs hP hD hS => ?_)
    refine lv_if_le (tgt := 30) hx hb dX6_isRule_23 (by decide) (fun c_8 => ?_) (fun c_8 => ?_)
    · have h := it_p c_8 h
      refine lv_iconst (v := 0) hx hb dX6_isRule_30 (by decide) ?_
      cases h
      exact hret _ _ _ _ (Or.inl rfl) hP hD hS dX6_isRule_31
    · have h := it_n c_8 h
      refine lv_iconst (v := 1) hx hb dX6_isRule_26 (by decide) ?_
      refine lv_goto (tgt := 31) hx hb dX6_isRule_27 (by decide) ?_
      cases h
      exact hret _ _ _ _ (Or.inr rfl) hP hD hS dX6_isRule_31
def f_X6_isAhead (i1 : Int32) (i2 : Int32) (rows6 : Int32) (sizes6 : Nat → Int32) (words6 : Nat → Int32) : Option (Int32) :=
  dz 8 <|
  dz 8 <|
  Option.bind (f_X6_support (i1 / 8) (i1 - i1 / 8 * 8) rows6 sizes6 words6) fun r_3 =>
  nm (α := Int32) (r_3) fun x3_5 =>
  dz 8 <|
  dz 8 <|
  Option.bind (f_X6_support (i2 / 8) (i2 - i2 / 8 * 8) rows6 sizes6 words6) fun r_8 =>
  nm (α := Int32) (r_8) fun x4_10 =>
  if x3_5 = x4_10 then
    dz 8 <|
    dz 8 <|
    Option.bind (f_X6_support (i1 / 8) (i1 / 8) rows6 sizes6 words6) fun r_14 =>
    nm (α := Int32) (r_14) fun x5_16 =>
    dz 8 <|
    dz 8 <|
    Option.bind (f_X6_support (i2 / 8) (i2 / 8) rows6 sizes6 words6) fun r_19 =>
    nm (α := Int32) (r_19) fun x6_21 =>
    if x5_16 = x6_21 then
      if i2 ≤ i1 then
        some 0
      else
        some 1
    else
      if x6_21 ≤ x5_16 then
        some 0
      else
        some 1
  else
    if x3_5 ≤ x4_10 then
      some 0
    else
      some 1
set_option maxHeartbeats 4000000 in
set_option maxRecDepth 100000 in
theorem c_X6_isAhead (l : Launch) (D : va_G) (cI cJ : ClassId) (h6 labels6a guesses6a comes6a sizes6a words6a told6a behind6a shares6a start6a move6a show6a signs6a many6a bestPath6a nextStart6a nextMove6a nextShow6a : Nat) (thrown6 : Int32) (rows6 : Int32) (labels6 : Nat → Int32) (guesses6 : Nat → Int32) (comes6 : Nat → Int32) (sizes6 : Nat → Int32) (words6 : Nat → Int32) (up6 : Int32) (down6 : Int32) (weightAbove6 : Int64) (weightBelow6 : Int64) (told6 : Nat → Int32) (length6 : Int32) (behind6 : Nat → Int32) (shares6 : Nat → Int64) (over6 : Int64) (start6 : Nat → Int32) (move6 : Nat → Int32) (show6 : Nat → Int32) (signs6 : Nat → Int32) (many6 : Nat → Int32) (bestPath6 : Nat → Int32) (nextStart6 : Nat → Int32) (nextMove6 : Nat → Int32) (nextShow6 : Nat → Int32) (i1 : Int32) (i2 : Int32) (ret9 : Int32) (h : f_X6_isAhead i1 i2 rows6 sizes6 words6 = some ret9) : CI l D cI cJ yX6_isAhead wsX6_isAhead 2 48 [.ref h6, .int i1, .int i2] (w6 cI cJ h6 labels6a guesses6a comes6a sizes6a words6a told6a behind6a shares6a start6a move6a show6a signs6a many6a bestPath6a nextStart6a nextMove6a nextShow6a thrown6 rows6 labels6 guesses6 comes6 sizes6 words6 up6 down6 weightAbove6 weightBelow6 told6 length6 behind6 shares6 over6 start6 move6 show6 signs6 many6 bestPath6 nextStart6 nextMove6 nextShow6) (w6 cI cJ h6 labels6a guesses6a comes6a sizes6a words6a told6a behind6a shares6a start6a move6a show6a signs6a many6a bestPath6a nextStart6a nextMove6a nextShow6a thrown6 rows6 labels6 guesses6 comes6 sizes6 words6 up6 down6 weightAbove6 weightBelow6 told6 length6 behind6 shares6 over6 start6 move6 show6 signs6 many6 bestPath6 nextStart6 nextMove6 nextShow6) ret9 := by
  refine entZ (cc := cX6_isAhead) (maxL := 7) (by decide) rfl (Nat.le_of_ble_eq_true rfl) ?_
  intro p e s m args below meth c ls A Q X hret
  obtain ⟨hx, hb, hml, hts, hown, hK, hA, hP, hD, hS, hl, hnm⟩ := X
  have hown : s.vm.findClass RX6 = some m.cls := hown
  have hl : lv_has ls 7 [(0, .ref h6), (1, .int i1), (2, .int i2)] := hl
  unfold f_X6_isAhead at h
  refine lv_aload_n hx hb dX6_isAhead_0 rfl (lv_at hl 0 rfl) ?_
  refine lv_iload_n hx hb dX6_isAhead_1 rfl (lv_at hl 1 rfl) ?_
  refine lv_bipush (v := 8) hx hb dX6_isAhead_2 (by decide) ?_
  obtain ⟨hz_1, h⟩ := dz_s h
  refine lv_idiv hx hb dX6_isAhead_4 hz_1 ?_
  refine lv_iload_n hx hb dX6_isAhead_5 rfl (lv_at hl 1 rfl) ?_
  refine lv_bipush (v := 8) hx hb dX6_isAhead_6 (by decide) ?_
  obtain ⟨hz_2, h⟩ := dz_s h
  refine lv_irem hx hb dX6_isAhead_8 hz_2 ?_
  obtain ⟨r_3, hc_4, h⟩ := bd_s h
  refine callTi (As := [.int (i1 / 8), .int (i1 - i1 / 8 * 8)]) (rest := []) ⟨hx, hb, hml, hown, hts⟩ (c_X6_support l D cI cJ h6 labels6a guesses6a comes6a sizes6a words6a told6a behind6a shares6a start6a move6a show6a signs6a many6a bestPath6a nextStart6a nextMove6a nextShow6a thrown6 rows6 labels6 guesses6 comes6 sizes6 words6 up6 down6 weightAbove6 weightBelow6 told6 length6 behind6 shares6 over6 start6 move6 show6 signs6 many6 bestPath6 nextStart6 nextMove6 nextShow6 (i1 / 8) (i1 - i1 / 8 * 8) r_3 hc_4) (cwV 2 hts gX6_isAhead_X6_support rfl rfl rfl (by decide +kernel) ⟨Nat.le_of_ble_eq_true rfl, Nat.le_of_ble_eq_true rfl⟩) hK hP hD hS hA 0 5 rfl rfl rfl rfl hl.1 rfl (Nat.le_of_ble_eq_true rfl) dX6_isAhead_9 ⟨Nat.zero_le _, Nat.zero_le _⟩ (fun H locs hP hD hS => ?_)
  refine lv_topi (fun x3_5 ex3_5 => ?_)
  have h := nm_s h x3_5 ex3_5
  refine lv_istore_n (lv' := [(3, .int x3_5), (0, .ref h6), (1, .int i1), (2, .int i2)]) hx hb dX6_isAhead_12 rfl hl (by decide) rfl (fun ls hl => ?_)
  refine lv_aload_n hx hb dX6_isAhead_13 rfl (lv_at hl 1 rfl) ?_
  refine lv_iload_n hx hb dX6_isAhead_14 rfl (lv_at hl 3 rfl) ?_
  refine lv_bipush (v := 8) hx hb dX6_isAhead_15 (by decide) ?_
  obtain ⟨hz_6, h⟩ := dz_s h
  refine lv_idiv hx hb dX6_isAhead_17 hz_6 ?_
  refine lv_iload_n hx hb dX6_isAhead_18 rfl (lv_at hl 3 rfl) ?_
  refine lv_bipush (v := 8) hx hb dX6_isAhead_19 (by decide) ?_
  obtain ⟨hz_7, h⟩ := dz_s h
  refine lv_irem hx hb dX6_isAhead_21 hz_7 ?_
  obtain ⟨r_8, hc_9, h⟩ := bd_s h
  refine callTi (As := [.int (i2 / 8), .int (i2 - i2 / 8 * 8)]) (rest := []) ⟨hx, hb, hml, hown, hts⟩ (c_X6_support l D cI cJ h6 labels6a guesses6a comes6a sizes6a words6a told6a behind6a shares6a start6a move6a show6a signs6a many6a bestPath6a nextStart6a nextMove6a nextShow6a thrown6 rows6 labels6 guesses6 comes6 sizes6 words6 up6 down6 weightAbove6 weightBelow6 told6 length6 behind6 shares6 over6 start6 move6 show6 signs6 many6 bestPath6 nextStart6 nextMove6 nextShow6 (i2 / 8) (i2 - i2 / 8 * 8) r_8 hc_9) (cwV 2 hts gX6_isAhead_X6_support rfl rfl rfl (by decide +kernel) ⟨Nat.le_of_ble_eq_true rfl, Nat.le_of_ble_eq_true rfl⟩) hK hP hD hS hA 0 5 rfl rfl rfl rfl hl.1 rfl (Nat.le_of_ble_eq_true rfl) dX6_isAhead_22 ⟨Nat.zero_le _, Nat.zero_le _⟩ (fun H locs hP hD hS => ?_)
  refine lv_topi (fun x4_10 ex4_10 => ?_)
  have h := nm_s h x4_10 ex4_10
  refine lv_istore (lv' := [(4, .int x4_10), (3, .int x3_5), (0, .ref h6), (1, .int i1), (2, .int i2)]) hx hb dX6_isAhead_25 hl (by decide) rfl (fun ls hl => ?_)
  refine lv_iload_n hx hb dX6_isAhead_27 rfl (lv_at hl 1 rfl) ?_
  refine lv_iload hx hb dX6_isAhead_28 (lv_at hl 0 rfl) ?_
  refine lv_icmp_eq (tgt := 45) hx hb dX6_isAhead_30 (by decide) (fun c_11 => ?_) (fun c_11 => ?_)
  · have h := it_p c_11 h
    refine lv_aload_n hx hb dX6_isAhead_45 rfl (lv_at hl 2 rfl) ?_
    refine lv_iload_n hx hb dX6_isAhead_46 rfl (lv_at hl 3 rfl) ?_
    refine lv_bipush (v := 8) hx hb dX6_isAhead_47 (by decide) ?_
    obtain ⟨hz_12, h⟩ := dz_s h
    refine lv_idiv hx hb dX6_isAhead_49 hz_12 ?_
    refine lv_iload_n hx hb dX6_isAhead_50 rfl (lv_at hl 3 rfl) ?_
    refine lv_bipush (v := 8) hx hb dX6_isAhead_51 (by decide) ?_
    obtain ⟨hz_13, h⟩ := dz_s h
    refine lv_idiv hx hb dX6_isAhead_53 hz_13 ?_
    obtain ⟨r_14, hc_15, h⟩ := bd_s h
    refine callTi (As := [.int (i1 / 8), .int (i1 / 8)]) (rest := []) ⟨hx, hb, hml, hown, hts⟩ (c_X6_support l D cI cJ h6 labels6a guesses6a comes6a sizes6a words6a told6a behind6a shares6a start6a move6a show6a signs6a many6a bestPath6a nextStart6a nextMove6a nextShow6a thrown6 rows6 labels6 guesses6 comes6 sizes6 words6 up6 down6 weightAbove6 weightBelow6 told6 length6 behind6 shares6 over6 start6 move6 show6 signs6 many6 bestPath6 nextStart6 nextMove6 nextShow6 (i1 / 8) (i1 / 8) r_14 hc_15) (cwV 2 hts gX6_isAhead_X6_support rfl rfl rfl (by decide +kernel) ⟨Nat.le_of_ble_eq_true rfl, Nat.le_of_ble_eq_true rfl⟩) hK hP hD hS hA 0 5 rfl rfl rfl rfl hl.1 rfl (Nat.le_of_ble_eq_true rfl) dX6_isAhead_54 ⟨Nat.zero_le _, Nat.zero_le _⟩ (fun H locs hP hD hS => ?_)
    refine lv_topi (fun x5_16 ex5_16 => ?_)
    have h := nm_s h x5_16 ex5_16
    refine lv_istore (lv' := [(5, .int x5_16), (4, .int x4_10), (3, .int x3_5), (0, .ref h6), (1, .int i1), (2, .int i2)]) hx hb dX6_isAhead_57 hl (by decide) rfl (fun ls hl => ?_)
    refine lv_aload_n hx hb dX6_isAhead_59 rfl (lv_at hl 3 rfl) ?_
    refine lv_iload_n hx hb dX6_isAhead_60 rfl (lv_at hl 5 rfl) ?_
    refine lv_bipush (v := 8) hx hb dX6_isAhead_61 (by decide) ?_
    obtain ⟨hz_17, h⟩ := dz_s h
    refine lv_idiv hx hb dX6_isAhead_63 hz_17 ?_
    refine lv_iload_n hx hb dX6_isAhead_64 rfl (lv_at hl 5 rfl) ?_
    refine lv_bipush (v := 8) hx hb dX6_isAhead_65 (by decide) ?_
    obtain ⟨hz_18, h⟩ := dz_s h
    refine lv_idiv hx hb dX6_isAhead_67 hz_18 ?_
    obtain ⟨r_19, hc_20, h⟩ := bd_s h
    refine callTi (As := [.int (i2 / 8), .int (i2 / 8)]) (rest := []) ⟨hx, hb, hml, hown, hts⟩ (c_X6_support l D cI cJ h6 labels6a guesses6a comes6a sizes6a words6a told6a behind6a shares6a start6a move6a show6a signs6a many6a bestPath6a nextStart6a nextMove6a nextShow6a thrown6 rows6 labels6 guesses6 comes6 sizes6 words6 up6 down6 weightAbove6 weightBelow6 told6 length6 behind6 shares6 over6 start6 move6 show6 signs6 many6 bestPath6 nextStart6 nextMove6 nextShow6 (i2 / 8) (i2 / 8) r_19 hc_20) (cwV 2 hts gX6_isAhead_X6_support rfl rfl rfl (by decide +kernel) ⟨Nat.le_of_ble_eq_true rfl, Nat.le_of_ble_eq_true rfl⟩) hK hP hD hS hA 0 5 rfl rfl rfl rfl hl.1 rfl (Nat.le_of_ble_eq_true rfl) dX6_isAhead_68 ⟨Nat.zero_le _, Nat.zero_le _⟩ (fun H locs hP hD hS => ?_)
    refine lv_topi (fun x6_21 ex6_21 => ?_)
    have h := nm_s h x6_21 ex6_21
    refine lv_istore (lv' := [(6, .int x6_21), (5, .int x5_16), (4, .int x4_10), (3, .int x3_5), (0, .ref h6), (1, .int i1), (2, .int i2)]) hx hb dX6_isAhead_71 hl (by decide) rfl (fun ls hl => ?_)
    refine lv_iload hx hb dX6_isAhead_73 (lv_at hl 1 rfl) ?_
    refine lv_iload hx hb dX6_isAhead_75 (lv_at hl 0 rfl) ?_
    refine lv_icmp_eq (tgt := 95) hx hb dX6_isAhead_77 (by decide) (fun c_22 => ?_) (fun c_22 => ?_)
    · have h := it_p c_22 h
      refine lv_iload_n hx hb dX6_isAhead_95 rfl (lv_at hl 5 rfl) ?_
      refine lv_iload_n hx hb dX6_isAhead_96 rfl (lv_at hl 6 rfl) ?_
      refine lv_icmp_ge (tgt := 104) hx hb dX6_isAhead_97 (by decide) (fun c_23 => ?_) (fun c_23 => ?_)
      · have h := it_p c_23 h
        refine lv_iconst (v := 0) hx hb dX6_isAhead_104 (by decide) ?_
        cases h
        exact hret _ _ _ _ (Or.inl rfl) hP hD hS dX6_isAhead_105
      · have h := it_n c_23 h
        refine lv_iconst (v := 1) hx hb dX6_isAhead_100 (by decide) ?_
        refine lv_goto (tgt := 105) hx hb dX6_isAhead_101 (by decide) ?_
        cases h
        exact hret _ _ _ _ (Or.inr rfl) hP hD hS dX6_isAhead_105
    · have h := it_n c_22 h
      refine lv_iload hx hb dX6_isAhead_80 (lv_at hl 1 rfl) ?_
      refine lv_iload hx hb dX6_isAhead_82 (lv_at hl 0 rfl) ?_
      refine lv_icmp_ge (tgt := 91) hx hb dX6_isAhead_84 (by decide) (fun c_24 => ?_) (fun c_24 => ?_)
      · have h := it_p c_24 h
        refine lv_iconst (v := 0) hx hb dX6_isAhead_91 (by decide) ?_
        refine lv_goto (tgt := 105) hx hb dX6_isAhead_92 (by decide) ?_
        cases h
        exact hret _ _ _ _ (Or.inl rfl) hP hD hS dX6_isAhead_105
      · have h := it_n c_24 h
        refine lv_iconst (v := 1) hx hb dX6_isAhead_87 (by decide) ?_
        refine lv_goto (tgt := 105) hx hb dX6_isAhead_88 (by decide) ?_
        cases h
        exact hret _ _ _ _ (Or.inr rfl) hP hD hS dX6_isAhead_105
  · have h := it_n c_11 h
    refine lv_iload_n hx hb dX6_isAhead_33 rfl (lv_at hl 1 rfl) ?_
    refine lv_iload hx hb dX6_isAhead_34 (lv_at hl 0 rfl) ?_
    refine lv_icmp_le (tgt := 43) hx hb dX6_isAhead_36 (by decide) (fun c_25 => ?_) (fun c_25 => ?_)
    · have h := it_p c_25 h
      refine lv_iconst (v := 0) hx hb dX6_isAhead_43 (by decide) ?_
      cases h
      exact hret _ _ _ _ (Or.inl rfl) hP hD hS dX6_isAhead_44
    · have h := it_n c_25 h
      refine lv_iconst (v := 1) hx hb dX6_isAhead_39 (by decide) ?_
      refine lv_goto (tgt := 44) hx hb dX6_isAhead_40 (by decide) ?_
      cases h
      exact hret _ _ _ _ (Or.inr rfl) hP hD hS dX6_isAhead_44
def f_X6_rules_L4 (rows6 : Int32) (sizes6 : Nat → Int32) (words6 : Nat → Int32) : Nat → Int32 → Int32 → Option (Int32 × Int32)
  | 0, _, _ => none
  | n + 1, y2_3, y1_4 =>
  if 64 ≤ y2_3 then
    some (y2_3, y1_4)
  else
    Option.bind (f_X6_isRule y2_3 rows6 sizes6 words6) fun r_8 =>
    if r_8 = 0 then
      nm (α := Int32) ((y1_4 + 0)) fun x1_11 =>
      nm (α := Int32) (y2_3 + 1) fun x2_12 =>
      f_X6_rules_L4 rows6 sizes6 words6 n x2_12 x1_11
    else
      nm (α := Int32) ((y1_4 + 1)) fun x1_13 =>
      nm (α := Int32) (y2_3 + 1) fun x2_14 =>
      f_X6_rules_L4 rows6 sizes6 words6 n x2_14 x1_13
def f_X6_rules (rows6 : Int32) (sizes6 : Nat → Int32) (words6 : Nat → Int32) : Option (Int32) :=
  nm (α := Int32) (0) fun x1_1 =>
  nm (α := Int32) (0) fun x2_2 =>
  Option.bind (f_X6_rules_L4 rows6 sizes6 words6 FU x2_2 x1_1) fun (z2_15, z1_16) =>
  some z1_16
set_option maxHeartbeats 4000000 in
set_option maxRecDepth 100000 in
theorem c_X6_rules (l : Launch) (D : va_G) (cI cJ : ClassId) (h6 labels6a guesses6a comes6a sizes6a words6a told6a behind6a shares6a start6a move6a show6a signs6a many6a bestPath6a nextStart6a nextMove6a nextShow6a : Nat) (thrown6 : Int32) (rows6 : Int32) (labels6 : Nat → Int32) (guesses6 : Nat → Int32) (comes6 : Nat → Int32) (sizes6 : Nat → Int32) (words6 : Nat → Int32) (up6 : Int32) (down6 : Int32) (weightAbove6 : Int64) (weightBelow6 : Int64) (told6 : Nat → Int32) (length6 : Int32) (behind6 : Nat → Int32) (shares6 : Nat → Int64) (over6 : Int64) (start6 : Nat → Int32) (move6 : Nat → Int32) (show6 : Nat → Int32) (signs6 : Nat → Int32) (many6 : Nat → Int32) (bestPath6 : Nat → Int32) (nextStart6 : Nat → Int32) (nextMove6 : Nat → Int32) (nextShow6 : Nat → Int32) (ret9 : Int32) (h : f_X6_rules rows6 sizes6 words6 = some ret9) : CI l D cI cJ yX6_rules wsX6_rules 3 69 [.ref h6] (w6 cI cJ h6 labels6a guesses6a comes6a sizes6a words6a told6a behind6a shares6a start6a move6a show6a signs6a many6a bestPath6a nextStart6a nextMove6a nextShow6a thrown6 rows6 labels6 guesses6 comes6 sizes6 words6 up6 down6 weightAbove6 weightBelow6 told6 length6 behind6 shares6 over6 start6 move6 show6 signs6 many6 bestPath6 nextStart6 nextMove6 nextShow6) (w6 cI cJ h6 labels6a guesses6a comes6a sizes6a words6a told6a behind6a shares6a start6a move6a show6a signs6a many6a bestPath6a nextStart6a nextMove6a nextShow6a thrown6 rows6 labels6 guesses6 comes6 sizes6 words6 up6 down6 weightAbove6 weightBelow6 told6 length6 behind6 shares6 over6 start6 move6 show6 signs6 many6 bestPath6 nextStart6 nextMove6 nextShow6) ret9 := by
  refine entI (cc := cX6_rules) (maxL := 3) (by decide) rfl (Nat.le_of_ble_eq_true rfl) ?_
  intro p e s m args below meth c ls A Q X hret
  obtain ⟨hx, hb, hml, hts, hown, hK, hA, hP, hD, hS, hl, hnm⟩ := X
  have hown : s.vm.findClass RX6 = some m.cls := hown
  have hl : lv_has ls 3 [(0, .ref h6)] := hl
  unfold f_X6_rules at h
  refine lv_iconst (v := 0) hx hb dX6_rules_0 (by decide) ?_
  refine lv_topi (fun x1_1 ex1_1 => ?_)
  have h := nm_s h x1_1 ex1_1
  refine lv_istore_n (lv' := [(1, .int x1_1), (0, .ref h6)]) hx hb dX6_rules_1 rfl hl (by decide) rfl (fun ls hl => ?_)
  refine lv_iconst (v := 0) hx hb dX6_rules_2 (by decide) ?_
  refine lv_topi (fun x2_2 ex2_2 => ?_)
  have h := nm_s h x2_2 ex2_2
  refine lv_istore_n (lv' := [(2, .int x2_2), (1, .int x1_1), (0, .ref h6)]) hx hb dX6_rules_3 rfl hl (by decide) rfl (fun ls hl => ?_)
  have L4 : ∀ (n : Nat) (y2_3 : Int32) (y1_4 : Int32) (z2_5 : Int32) (z1_6 : Int32), f_X6_rules_L4 rows6 sizes6 words6 n y2_3 y1_4 = some (z2_5, z1_6) → ∀ (H : Heap) (locs : List Loc) (ls : Array Slot), va_P D vwK (w6 cI cJ h6 labels6a guesses6a comes6a sizes6a words6a told6a behind6a shares6a start6a move6a show6a signs6a many6a bestPath6a nextStart6a nextMove6a nextShow6a thrown6 rows6 labels6 guesses6 comes6 sizes6 words6 up6 down6 weightAbove6 weightBelow6 told6 length6 behind6 shares6 over6 start6 move6 show6 signs6 many6 bestPath6 nextStart6 nextMove6 nextShow6) H → va_D A (w6 cI cJ h6 labels6a guesses6a comes6a sizes6a words6a told6a behind6a shares6a start6a move6a show6a signs6a many6a bestPath6a nextStart6a nextMove6a nextShow6a thrown6 rows6 labels6 guesses6 comes6 sizes6 words6 up6 down6 weightAbove6 weightBelow6 told6 length6 behind6 shares6 over6 start6 move6 show6 signs6 many6 bestPath6 nextStart6 nextMove6 nextShow6) → va_S A s.heap H locs → lv_has ls 3 [(2, .int y2_3), (1, .int y1_4), (0, .ref h6)] → (∀ (H : Heap) (locs : List Loc) (ls : Array Slot), va_P D vwK (w6 cI cJ h6 labels6a guesses6a comes6a sizes6a words6a told6a behind6a shares6a start6a move6a show6a signs6a many6a bestPath6a nextStart6a nextMove6a nextShow6a thrown6 rows6 labels6 guesses6 comes6 sizes6 words6 up6 down6 weightAbove6 weightBelow6 told6 length6 behind6 shares6 over6 start6 move6 show6 signs6 many6 bestPath6 nextStart6 nextMove6 nextShow6) H → va_D A (w6 cI cJ h6 labels6a guesses6a comes6a sizes6a words6a told6a behind6a shares6a start6a move6a show6a signs6a many6a bestPath6a nextStart6a nextMove6a nextShow6a thrown6 rows6 labels6 guesses6 comes6 sizes6 words6 up6 down6 weightAbove6 weightBelow6 told6 length6 behind6 shares6 over6 start6 move6 show6 signs6 many6 bestPath6 nextStart6 nextMove6 nextShow6) → va_S A s.heap H locs → lv_has ls 3 [(1, .int z1_6)] → W p l e (rmOf 3 69) s m args below meth c H locs 0 0 Q (F0 m 32 ls [])) → W p l e (rmOf 3 69) s m args below meth c H locs 0 0 Q (F0 m 4 ls []) := by
    intro n
    induction n with
    | zero => intro y2_3 y1_4 z2_5 z1_6 h; rw [f_X6_rules_L4.eq_1] at h; cases h
    | succ n ih =>
      intro y2_3 y1_4 z2_5 z1_6 h H locs ls hP hD hS hl K
      rw [f_X6_rules_L4.eq_2] at h
      refine lv_iload_n hx hb dX6_rules_4 rfl (lv_at hl 0 rfl) ?_
      refine lv_bipush (v := 64) hx hb dX6_rules_5 (by decide) ?_
      refine lv_icmp_ge (tgt := 32) hx hb dX6_rules_7 (by decide) (fun c_7 => ?_) (fun c_7 => ?_)
      · have h := it_p c_7 h
        cases h
        exact K _ _ _ hP hD hS (lv_sub hl [1] rfl)
      · have h := it_n c_7 h
        refine lv_iload_n hx hb dX6_rules_10 rfl (lv_at hl 1 rfl) ?_
        refine lv_aload_n hx hb dX6_rules_11 rfl (lv_at hl 2 rfl) ?_
        refine lv_iload_n hx hb dX6_rules_12 rfl (lv_at hl 0 rfl) ?_
        obtain ⟨r_8, hc_9, h⟩ := bd_s h
        refine callTi (As := [.int y2_3]) (rest := [.int y1_4]) ⟨hx, hb, hml, hown, hts⟩ (c_X6_isRule l D cI cJ h6 labels6a guesses6a comes6a sizes6a words6a told6a behind6a shares6a start6a move6a show6a signs6a many6a bestPath6a nextStart6a nextMove6a nextShow6a thrown6 rows6 labels6 guesses6 comes6 sizes6 words6 up6 down6 weightAbove6 weightBelow6 told6 length6 behind6 shares6 over6 start6 move6 show6 signs6 many6 bestPath6 nextStart6 nextMove6 nextShow6 y2_3 r_8 hc_9) (cwV 1 hts gX6_rules_X6_isRule rfl rfl rfl (by decide +kernel) ⟨Nat.le_of_ble_eq_true rfl, Nat.le_of_ble_eq_true rfl⟩) hK hP hD hS hA 0 5 rfl rfl rfl rfl hl.1 rfl (Nat.le_of_ble_eq_true rfl) dX6_rules_13 ⟨Nat.zero_le _, Nat.zero_le _⟩ (fun H locs hP hD hS => ?_)
        refine lv_if_eq (tgt := 23) hx hb dX6_rules_16 (by decide) (fun c_10 => ?_) (fun c_10 => ?_)
        · have h := it_p c_10 h
          refine lv_iconst (v := 0) hx hb dX6_rules_23 (by decide) ?_
          refine lv_iadd hx hb dX6_rules_24 ?_
          refine lv_topi (fun x1_11 ex1_11 => ?_)
          have h := nm_s h x1_11 ex1_11
          refine lv_istore_n (lv' := [(1, .int x1_11), (2, .int y2_3), (0, .ref h6)]) hx hb dX6_rules_25 rfl hl (by decide) rfl (fun ls hl => ?_)
          obtain ⟨x2_12, ex2_12⟩ : ∃ z : Int32, z = y2_3 + 1 := ⟨_, rfl⟩
          have h := nm_s h x2_12 ex2_12
          refine lv_iinc (v := x2_12) (lv' := [(2, .int x2_12), (1, .int x1_11), (0, .ref h6)]) hx hb dX6_rules_26 hl (k := 1) rfl (by rw [ex2_12]; rfl) (by decide) rfl (fun ls hl => ?_)
          refine lv_goto (tgt := 4) hx hb dX6_rules_29 (by decide) ?_
          exact ih _ _ _ _ h _ _ _ hP hD hS (lv_sub hl [0, 1, 2] rfl) K
        · have h := it_n c_10 h
          refine lv_iconst (v := 1) hx hb dX6_rules_19 (by decide) ?_
          refine lv_goto (tgt := 24) hx hb dX6_rules_20 (by decide) ?_
          refine lv_iadd hx hb dX6_rules_24 ?_
          refine lv_topi (fun x1_13 ex1_13 => ?_)
          have h := nm_s h x1_13 ex1_13
          refine lv_istore_n (lv' := [(1, .int x1_13), (2, .int y2_3), (0, .ref h6)]) hx hb dX6_rules_25 rfl hl (by decide) rfl (fun ls hl => ?_)
          obtain ⟨x2_14, ex2_14⟩ : ∃ z : Int32, z = y2_3 + 1 := ⟨_, rfl⟩
          have h := nm_s h x2_14 ex2_14
          refine lv_iinc (v := x2_14) (lv' := [(2, .int x2_14), (1, .int x1_13), (0, .ref h6)]) hx hb dX6_rules_26 hl (k := 1) rfl (by rw [ex2_14]; rfl) (by decide) rfl (fun ls hl => ?_)
          refine lv_goto (tgt := 4) hx hb dX6_rules_29 (by decide) ?_
          exact ih _ _ _ _ h _ _ _ hP hD hS (lv_sub hl [0, 1, 2] rfl) K
  obtain ⟨⟨z2_15, z1_16⟩, hl_17, h⟩ := bd_s h
  refine L4 FU x2_2 x1_1 _ _ hl_17 _ _ _ hP hD hS (lv_sub hl [0, 1, 2] rfl) (fun H locs ls hP hD hS hl => ?_)
  refine lv_iload_n hx hb dX6_rules_32 rfl (lv_at hl 0 rfl) ?_
  cases h
  exact hret _ _ _ _ hP hD hS dX6_rules_33
def f_X6_ruleAt_L13 (y2_2 : Int32) (rows6 : Int32) (sizes6 : Nat → Int32) (words6 : Nat → Int32) : Nat → Int32 → Int32 → Option (Int32 × Int32)
  | 0, _, _ => none
  | n + 1, y4_7, y3_8 =>
  if 64 ≤ y4_7 then
    some (y4_7, y3_8)
  else
    Option.bind (f_X6_isRule y2_2 rows6 sizes6 words6) fun r_12 =>
    if r_12 = 0 then
      some (y4_7, y3_8)
    else
      if y4_7 = y2_2 then
        nm (α := Int32) ((y3_8 + 0)) fun x3_16 =>
        nm (α := Int32) (y4_7 + 1) fun x4_17 =>
        f_X6_ruleAt_L13 y2_2 rows6 sizes6 words6 n x4_17 x3_16
      else
        Option.bind (f_X6_isRule y4_7 rows6 sizes6 words6) fun r_18 =>
        if r_18 = 0 then
          nm (α := Int32) ((y3_8 + 0)) fun x3_21 =>
          nm (α := Int32) (y4_7 + 1) fun x4_22 =>
          f_X6_ruleAt_L13 y2_2 rows6 sizes6 words6 n x4_22 x3_21
        else
          Option.bind (f_X6_isAhead y4_7 y2_2 rows6 sizes6 words6) fun r_23 =>
          if r_23 = 0 then
            nm (α := Int32) ((y3_8 + 0)) fun x3_26 =>
            nm (α := Int32) (y4_7 + 1) fun x4_27 =>
            f_X6_ruleAt_L13 y2_2 rows6 sizes6 words6 n x4_27 x3_26
          else
            nm (α := Int32) ((y3_8 + 1)) fun x3_28 =>
            nm (α := Int32) (y4_7 + 1) fun x4_29 =>
            f_X6_ruleAt_L13 y2_2 rows6 sizes6 words6 n x4_29 x3_28
def f_X6_ruleAt_L2 (i1 : Int32) (rows6 : Int32) (sizes6 : Nat → Int32) (words6 : Nat → Int32) : Nat → Int32 → Option ((Int32) ⊕ (Int32))
  | 0, _ => none
  | n + 1, y2_2 =>
  if 64 ≤ y2_2 then
    some (.inr y2_2)
  else
    nm (α := Int32) (0) fun x3_5 =>
    nm (α := Int32) (0) fun x4_6 =>
    Option.bind (f_X6_ruleAt_L13 y2_2 rows6 sizes6 words6 FU x4_6 x3_5) fun (z4_30, z3_31) =>
    Option.bind (f_X6_isRule y2_2 rows6 sizes6 words6) fun r_33 =>
    if r_33 = 0 then
      nm (α := Int32) (y2_2 + 1) fun x2_36 =>
      f_X6_ruleAt_L2 i1 rows6 sizes6 words6 n x2_36
    else
      if z3_31 = i1 then
        some (.inl y2_2)
      else
        nm (α := Int32) (y2_2 + 1) fun x2_38 =>
        f_X6_ruleAt_L2 i1 rows6 sizes6 words6 n x2_38
def f_X6_ruleAt (i1 : Int32) (rows6 : Int32) (sizes6 : Nat → Int32) (words6 : Nat → Int32) : Option (Int32) :=
  nm (α := Int32) (0) fun x2_1 =>
  Option.bind (f_X6_ruleAt_L2 i1 rows6 sizes6 words6 FU x2_1) fun r9 => match r9 with
  | .inl r9 => some r9
  | .inr z2_39 =>
    some (-1)
set_option maxHeartbeats 4000000 in
set_option maxRecDepth 100000 in
theorem c_X6_ruleAt (l : Launch) (D : va_G) (cI cJ : ClassId) (h6 labels6a guesses6a comes6a sizes6a words6a told6a behind6a shares6a start6a move6a show6a signs6a many6a bestPath6a nextStart6a nextMove6a nextShow6a : Nat) (thrown6 : Int32) (rows6 : Int32) (labels6 : Nat → Int32) (guesses6 : Nat → Int32) (comes6 : Nat → Int32) (sizes6 : Nat → Int32) (words6 : Nat → Int32) (up6 : Int32) (down6 : Int32) (weightAbove6 : Int64) (weightBelow6 : Int64) (told6 : Nat → Int32) (length6 : Int32) (behind6 : Nat → Int32) (shares6 : Nat → Int64) (over6 : Int64) (start6 : Nat → Int32) (move6 : Nat → Int32) (show6 : Nat → Int32) (signs6 : Nat → Int32) (many6 : Nat → Int32) (bestPath6 : Nat → Int32) (nextStart6 : Nat → Int32) (nextMove6 : Nat → Int32) (nextShow6 : Nat → Int32) (i1 : Int32) (ret9 : Int32) (h : f_X6_ruleAt i1 rows6 sizes6 words6 = some ret9) : CI l D cI cJ yX6_ruleAt wsX6_ruleAt 3 74 [.ref h6, .int i1] (w6 cI cJ h6 labels6a guesses6a comes6a sizes6a words6a told6a behind6a shares6a start6a move6a show6a signs6a many6a bestPath6a nextStart6a nextMove6a nextShow6a thrown6 rows6 labels6 guesses6 comes6 sizes6 words6 up6 down6 weightAbove6 weightBelow6 told6 length6 behind6 shares6 over6 start6 move6 show6 signs6 many6 bestPath6 nextStart6 nextMove6 nextShow6) (w6 cI cJ h6 labels6a guesses6a comes6a sizes6a words6a told6a behind6a shares6a start6a move6a show6a signs6a many6a bestPath6a nextStart6a nextMove6a nextShow6a thrown6 rows6 labels6 guesses6 comes6 sizes6 words6 up6 down6 weightAbove6 weightBelow6 told6 length6 behind6 shares6 over6 start6 move6 show6 signs6 many6 bestPath6 nextStart6 nextMove6 nextShow6) ret9 := by
  refine entI (cc := cX6_ruleAt) (maxL := 5) (by decide) rfl (Nat.le_of_ble_eq_true rfl) ?_
  intro p e s m args below meth c ls A Q X hret
  obtain ⟨hx, hb, hml, hts, hown, hK, hA, hP, hD, hS, hl, hnm⟩ := X
  have hown : s.vm.findClass RX6 = some m.cls := hown
  have hl : lv_has ls 5 [(0, .ref h6), (1, .int i1)] := hl
  unfold f_X6_ruleAt at h
  refine lv_iconst (v := 0) hx hb dX6_ruleAt_0 (by decide) ?_
  refine lv_topi (fun x2_1 ex2_1 => ?_)
  have h := nm_s h x2_1 ex2_1
  refine lv_istore_n (lv' := [(2, .int x2_1), (0, .ref h6), (1, .int i1)]) hx hb dX6_ruleAt_1 rfl hl (by decide) rfl (fun ls hl => ?_)
  have L2 : ∀ (n : Nat) (y2_2 : Int32) (res : (Int32) ⊕ (Int32)), f_X6_ruleAt_L2 i1 rows6 sizes6 words6 n y2_2 = some res → ∀ (H : Heap) (locs : List Loc) (ls : Array Slot), va_P D vwK (w6 cI cJ h6 labels6a guesses6a comes6a sizes6a words6a told6a behind6a shares6a start6a move6a show6a signs6a many6a bestPath6a nextStart6a nextMove6a nextShow6a thrown6 rows6 labels6 guesses6 comes6 sizes6 words6 up6 down6 weightAbove6 weightBelow6 told6 length6 behind6 shares6 over6 start6 move6 show6 signs6 many6 bestPath6 nextStart6 nextMove6 nextShow6) H → va_D A (w6 cI cJ h6 labels6a guesses6a comes6a sizes6a words6a told6a behind6a shares6a start6a move6a show6a signs6a many6a bestPath6a nextStart6a nextMove6a nextShow6a thrown6 rows6 labels6 guesses6 comes6 sizes6 words6 up6 down6 weightAbove6 weightBelow6 told6 length6 behind6 shares6 over6 start6 move6 show6 signs6 many6 bestPath6 nextStart6 nextMove6 nextShow6) → va_S A s.heap H locs → lv_has ls 5 [(2, .int y2_2), (0, .ref h6), (1, .int i1)] → (∀ rt, res = .inl rt → rt = ret9) → (∀ (z2_3 : Int32), res = .inr z2_3 → ∀ (H : Heap) (locs : List Loc) (ls : Array Slot), va_P D vwK (w6 cI cJ h6 labels6a guesses6a comes6a sizes6a words6a told6a behind6a shares6a start6a move6a show6a signs6a many6a bestPath6a nextStart6a nextMove6a nextShow6a thrown6 rows6 labels6 guesses6 comes6 sizes6 words6 up6 down6 weightAbove6 weightBelow6 told6 length6 behind6 shares6 over6 start6 move6 show6 signs6 many6 bestPath6 nextStart6 nextMove6 nextShow6) H → va_D A (w6 cI cJ h6 labels6a guesses6a comes6a sizes6a words6a told6a behind6a shares6a start6a move6a show6a signs6a many6a bestPath6a nextStart6a nextMove6a nextShow6a thrown6 rows6 labels6 guesses6 comes6 sizes6 words6 up6 down6 weightAbove6 weightBelow6 told6 length6 behind6 shares6 over6 start6 move6 show6 signs6 many6 bestPath6 nextStart6 nextMove6 nextShow6) → va_S A s.heap H locs → lv_has ls 5 [] → W p l e (rmOf 3 74) s m args below meth c H locs 0 0 Q (F0 m 88 ls [])) → W p l e (rmOf 3 74) s m args below meth c H locs 0 0 Q (F0 m 2 ls []) := by
    intro n
    induction n with
    | zero => intro y2_2 res h; rw [f_X6_ruleAt_L2.eq_1] at h; cases h
    | succ n ih =>
      intro y2_2 res h H locs ls hP hD hS hl KR K
      rw [f_X6_ruleAt_L2.eq_2] at h
      refine lv_iload_n hx hb dX6_ruleAt_2 rfl (lv_at hl 0 rfl) ?_
      refine lv_bipush (v := 64) hx hb dX6_ruleAt_3 (by decide) ?_
      refine lv_icmp_ge (tgt := 88) hx hb dX6_ruleAt_5 (by decide) (fun c_4 => ?_) (fun c_4 => ?_)
      · have h := it_p c_4 h
        cases h
        exact K _ rfl _ _ _ hP hD hS (lv_sub hl [] rfl)
      · have h := it_n c_4 h
        refine lv_iconst (v := 0) hx hb dX6_ruleAt_8 (by decide) ?_
        refine lv_topi (fun x3_5 ex3_5 => ?_)
        have h := nm_s h x3_5 ex3_5
        refine lv_istore_n (lv' := [(3, .int x3_5), (2, .int y2_2), (0, .ref h6), (1, .int i1)]) hx hb dX6_ruleAt_9 rfl hl (by decide) rfl (fun ls hl => ?_)
        refine lv_iconst (v := 0) hx hb dX6_ruleAt_10 (by decide) ?_
        refine lv_topi (fun x4_6 ex4_6 => ?_)
        have h := nm_s h x4_6 ex4_6
        refine lv_istore (lv' := [(4, .int x4_6), (3, .int x3_5), (2, .int y2_2), (0, .ref h6), (1, .int i1)]) hx hb dX6_ruleAt_11 hl (by decide) rfl (fun ls hl => ?_)
        have L13 : ∀ (n : Nat) (y4_7 : Int32) (y3_8 : Int32) (z4_9 : Int32) (z3_10 : Int32), f_X6_ruleAt_L13 y2_2 rows6 sizes6 words6 n y4_7 y3_8 = some (z4_9, z3_10) → ∀ (H : Heap) (locs : List Loc) (ls : Array Slot), va_P D vwK (w6 cI cJ h6 labels6a guesses6a comes6a sizes6a words6a told6a behind6a shares6a start6a move6a show6a signs6a many6a bestPath6a nextStart6a nextMove6a nextShow6a thrown6 rows6 labels6 guesses6 comes6 sizes6 words6 up6 down6 weightAbove6 weightBelow6 told6 length6 behind6 shares6 over6 start6 move6 show6 signs6 many6 bestPath6 nextStart6 nextMove6 nextShow6) H → va_D A (w6 cI cJ h6 labels6a guesses6a comes6a sizes6a words6a told6a behind6a shares6a start6a move6a show6a signs6a many6a bestPath6a nextStart6a nextMove6a nextShow6a thrown6 rows6 labels6 guesses6 comes6 sizes6 words6 up6 down6 weightAbove6 weightBelow6 told6 length6 behind6 shares6 over6 start6 move6 show6 signs6 many6 bestPath6 nextStart6 nextMove6 nextShow6) → va_S A s.heap H locs → lv_has ls 5 [(4, .int y4_7), (3, .int y3_8), (2, .int y2_2), (0, .ref h6), (1, .int i1)] → (∀ (H : Heap) (locs : List Loc) (ls : Array Slot), va_P D vwK (w6 cI cJ h6 labels6a guesses6a comes6a sizes6a words6a told6a behind6a shares6a start6a move6a show6a signs6a many6a bestPath6a nextStart6a nextMove6a nextShow6a thrown6 rows6 labels6 guesses6 comes6 sizes6 words6 up6 down6 weightAbove6 weightBelow6 told6 length6 behind6 shares6 over6 start6 move6 show6 signs6 many6 bestPath6 nextStart6 nextMove6 nextShow6) H → va_D A (w6 cI cJ h6 labels6a guesses6a comes6a sizes6a words6a told6a behind6a shares6a start6a move6a show6a signs6a many6a bestPath6a nextStart6a nextMove6a nextShow6a thrown6 rows6 labels6 guesses6 comes6 sizes6 words6 up6 down6 weightAbove6 weightBelow6 told6 length6 behind6 shares6 over6 start6 move6 show6 signs6 many6 bestPath6 nextStart6 nextMove6 nextShow6) → va_S A s.heap H locs → lv_has ls 5 [(3, .int z3_10), (2, .int y2_2), (0, .ref h6), (1, .int i1)] → W p l e (rmOf 3 74) s m args below meth c H locs 0 0 Q (F0 m 67 ls [])) → W p l e (rmOf 3 74) s m args below meth c H locs 0 0 Q (F0 m 13 ls []) := by
          intro n
          induction n with
          | zero => intro y4_7 y3_8 z4_9 z3_10 h; rw [f_X6_ruleAt_L13.eq_1] at h; cases h
          | succ n ih =>
            intro y4_7 y3_8 z4_9 z3_10 h H locs ls hP hD hS hl K
            rw [f_X6_ruleAt_L13.eq_2] at h
            refine lv_iload hx hb dX6_ruleAt_13 (lv_at hl 0 rfl) ?_
            refine lv_bipush (v := 64) hx hb dX6_ruleAt_15 (by decide) ?_
            refine lv_icmp_ge (tgt := 67) hx hb dX6_ruleAt_17 (by decide) (fun c_11 => ?_) (fun c_11 => ?_)
            · have h := it_p c_11 h
              cases h
              exact K _ _ _ hP hD hS (lv_sub hl [1, 2, 3, 4] rfl)
            · have h := it_n c_11 h
              refine lv_aload_n hx hb dX6_ruleAt_20 rfl (lv_at hl 3 rfl) ?_
              refine lv_iload_n hx hb dX6_ruleAt_21 rfl (lv_at hl 2 rfl) ?_
              obtain ⟨r_12, hc_13, h⟩ := bd_s h
              refine callTi (As := [.int y2_2]) (rest := []) ⟨hx, hb, hml, hown, hts⟩ (c_X6_isRule l D cI cJ h6 labels6a guesses6a comes6a sizes6a words6a told6a behind6a shares6a start6a move6a show6a signs6a many6a bestPath6a nextStart6a nextMove6a nextShow6a thrown6 rows6 labels6 guesses6 comes6 sizes6 words6 up6 down6 weightAbove6 weightBelow6 told6 length6 behind6 shares6 over6 start6 move6 show6 signs6 many6 bestPath6 nextStart6 nextMove6 nextShow6 y2_2 r_12 hc_13) (cwV 1 hts gX6_ruleAt_X6_isRule rfl rfl rfl (by decide +kernel) ⟨Nat.le_of_ble_eq_true rfl, Nat.le_of_ble_eq_true rfl⟩) hK hP hD hS hA 0 5 rfl rfl rfl rfl hl.1 rfl (Nat.le_of_ble_eq_true rfl) dX6_ruleAt_22 ⟨Nat.zero_le _, Nat.zero_le _⟩ (fun H locs hP hD hS => ?_)
              refine lv_if_eq (tgt := 67) hx hb dX6_ruleAt_25 (by decide) (fun c_14 => ?_) (fun c_14 => ?_)
              · have h := it_p c_14 h
                cases h
                exact K _ _ _ hP hD hS (lv_sub hl [1, 2, 3, 4] rfl)
              · have h := it_n c_14 h
                refine lv_iload_n hx hb dX6_ruleAt_28 rfl (lv_at hl 1 rfl) ?_
                refine lv_iload hx hb dX6_ruleAt_29 (lv_at hl 0 rfl) ?_
                refine lv_iload_n hx hb dX6_ruleAt_31 rfl (lv_at hl 2 rfl) ?_
                refine lv_icmp_eq (tgt := 58) hx hb dX6_ruleAt_32 (by decide) (fun c_15 => ?_) (fun c_15 => ?_)
                · have h := it_p c_15 h
                  refine lv_iconst (v := 0) hx hb dX6_ruleAt_58 (by decide) ?_
                  refine lv_iadd hx hb dX6_ruleAt_59 ?_
                  refine lv_topi (fun x3_16 ex3_16 => ?_)
                  have h := nm_s h x3_16 ex3_16
                  refine lv_istore_n (lv' := [(3, .int x3_16), (4, .int y4_7), (2, .int y2_2), (0, .ref h6), (1, .int i1)]) hx hb dX6_ruleAt_60 rfl hl (by decide) rfl (fun ls hl => ?_)
                  obtain ⟨x4_17, ex4_17⟩ : ∃ z : Int32, z = y4_7 + 1 := ⟨_, rfl⟩
                  have h := nm_s h x4_17 ex4_17
                  refine lv_iinc (v := x4_17) (lv' := [(4, .int x4_17), (3, .int x3_16), (2, .int y2_2), (0, .ref h6), (1, .int i1)]) hx hb dX6_ruleAt_61 hl (k := 1) rfl (by rw [ex4_17]; rfl) (by decide) rfl (fun ls hl => ?_)
                  refine lv_goto (tgt := 13) hx hb dX6_ruleAt_64 (by decide) ?_
                  exact ih _ _ _ _ h _ _ _ hP hD hS (lv_sub hl [0, 1, 2, 3, 4] rfl) K
                · have h := it_n c_15 h
                  refine lv_aload_n hx hb dX6_ruleAt_35 rfl (lv_at hl 3 rfl) ?_
                  refine lv_iload hx hb dX6_ruleAt_36 (lv_at hl 0 rfl) ?_
                  obtain ⟨r_18, hc_19, h⟩ := bd_s h
                  refine callTi (As := [.int y4_7]) (rest := [.int y3_8]) ⟨hx, hb, hml, hown, hts⟩ (c_X6_isRule l D cI cJ h6 labels6a guesses6a comes6a sizes6a words6a told6a behind6a shares6a start6a move6a show6a signs6a many6a bestPath6a nextStart6a nextMove6a nextShow6a thrown6 rows6 labels6 guesses6 comes6 sizes6 words6 up6 down6 weightAbove6 weightBelow6 told6 length6 behind6 shares6 over6 start6 move6 show6 signs6 many6 bestPath6 nextStart6 nextMove6 nextShow6 y4_7 r_18 hc_19) (cwV 1 hts gX6_ruleAt_X6_isRule rfl rfl rfl (by decide +kernel) ⟨Nat.le_of_ble_eq_true rfl, Nat.le_of_ble_eq_true rfl⟩) hK hP hD hS hA 0 5 rfl rfl rfl rfl hl.1 rfl (Nat.le_of_ble_eq_true rfl) dX6_ruleAt_38 ⟨Nat.zero_le _, Nat.zero_le _⟩ (fun H locs hP hD hS => ?_)
                  refine lv_if_eq (tgt := 58) hx hb dX6_ruleAt_41 (by decide) (fun c_20 => ?_) (fun c_20 => ?_)
                  · have h := it_p c_20 h
                    refine lv_iconst (v := 0) hx hb dX6_ruleAt_58 (by decide) ?_
                    refine lv_iadd hx hb dX6_ruleAt_59 ?_
                    refine lv_topi (fun x3_21 ex3_21 => ?_)
                    have h := nm_s h x3_21 ex3_21
                    refine lv_istore_n (lv' := [(3, .int x3_21), (4, .int y4_7), (2, .int y2_2), (0, .ref h6), (1, .int i1)]) hx hb dX6_ruleAt_60 rfl hl (by decide) rfl (fun ls hl => ?_)
                    obtain ⟨x4_22, ex4_22⟩ : ∃ z : Int32, z = y4_7 + 1 := ⟨_, rfl⟩
                    have h := nm_s h x4_22 ex4_22
                    refine lv_iinc (v := x4_22) (lv' := [(4, .int x4_22), (3, .int x3_21), (2, .int y2_2), (0, .ref h6), (1, .int i1)]) hx hb dX6_ruleAt_61 hl (k := 1) rfl (by rw [ex4_22]; rfl) (by decide) rfl (fun ls hl => ?_)
                    refine lv_goto (tgt := 13) hx hb dX6_ruleAt_64 (by decide) ?_
                    exact ih _ _ _ _ h _ _ _ hP hD hS (lv_sub hl [0, 1, 2, 3, 4] rfl) K
                  · have h := it_n c_20 h
                    refine lv_aload_n hx hb dX6_ruleAt_44 rfl (lv_at hl 3 rfl) ?_
                    refine lv_iload hx hb dX6_ruleAt_45 (lv_at hl 0 rfl) ?_
                    refine lv_iload_n hx hb dX6_ruleAt_47 rfl (lv_at hl 2 rfl) ?_
                    obtain ⟨r_23, hc_24, h⟩ := bd_s h
                    refine callTi (As := [.int y4_7, .int y2_2]) (rest := [.int y3_8]) ⟨hx, hb, hml, hown, hts⟩ (c_X6_isAhead l D cI cJ h6 labels6a guesses6a comes6a sizes6a words6a told6a behind6a shares6a start6a move6a show6a signs6a many6a bestPath6a nextStart6a nextMove6a nextShow6a thrown6 rows6 labels6 guesses6 comes6 sizes6 words6 up6 down6 weightAbove6 weightBelow6 told6 length6 behind6 shares6 over6 start6 move6 show6 signs6 many6 bestPath6 nextStart6 nextMove6 nextShow6 y4_7 y2_2 r_23 hc_24) (cwV 2 hts gX6_ruleAt_X6_isAhead rfl rfl rfl (by decide +kernel) ⟨Nat.le_of_ble_eq_true rfl, Nat.le_of_ble_eq_true rfl⟩) hK hP hD hS hA 0 5 rfl rfl rfl rfl hl.1 rfl (Nat.le_of_ble_eq_true rfl) dX6_ruleAt_48 ⟨Nat.zero_le _, Nat.zero_le _⟩ (fun H locs hP hD hS => ?_)
                    refine lv_if_eq (tgt := 58) hx hb dX6_ruleAt_51 (by decide) (fun c_25 => ?_) (fun c_25 => ?_)
                    · have h := it_p c_25 h
                      refine lv_iconst (v := 0) hx hb dX6_ruleAt_58 (by decide) ?_
                      refine lv_iadd hx hb dX6_ruleAt_59 ?_
                      refine lv_topi (fun x3_26 ex3_26 => ?_)
                      have h := nm_s h x3_26 ex3_26
                      refine lv_istore_n (lv' := [(3, .int x3_26), (4, .int y4_7), (2, .int y2_2), (0, .ref h6), (1, .int i1)]) hx hb dX6_ruleAt_60 rfl hl (by decide) rfl (fun ls hl => ?_)
                      obtain ⟨x4_27, ex4_27⟩ : ∃ z : Int32, z = y4_7 + 1 := ⟨_, rfl⟩
                      have h := nm_s h x4_27 ex4_27
                      refine lv_iinc (v := x4_27) (lv' := [(4, .int x4_27), (3, .int x3_26), (2, .int y2_2), (0, .ref h6), (1, .int i1)]) hx hb dX6_ruleAt_61 hl (k := 1) rfl (by rw [ex4_27]; rfl) (by decide) rfl (fun ls hl => ?_)
                      refine lv_goto (tgt := 13) hx hb dX6_ruleAt_64 (by decide) ?_
                      exact ih _ _ _ _ h _ _ _ hP hD hS (lv_sub hl [0, 1, 2, 3, 4] rfl) K
                    · have h := it_n c_25 h
                      refine lv_iconst (v := 1) hx hb dX6_ruleAt_54 (by decide) ?_
                      refine lv_goto (tgt := 59) hx hb dX6_ruleAt_55 (by decide) ?_
                      refine lv_iadd hx hb dX6_ruleAt_59 ?_
                      refine lv_topi (fun x3_28 ex3_28 => ?_)
                      have h := nm_s h x3_28 ex3_28
                      refine lv_istore_n (lv' := [(3, .int x3_28), (4, .int y4_7), (2, .int y2_2), (0, .ref h6), (1, .int i1)]) hx hb dX6_ruleAt_60 rfl hl (by decide) rfl (fun ls hl => ?_)
                      obtain ⟨x4_29, ex4_29⟩ : ∃ z : Int32, z = y4_7 + 1 := ⟨_, rfl⟩
                      have h := nm_s h x4_29 ex4_29
                      refine lv_iinc (v := x4_29) (lv' := [(4, .int x4_29), (3, .int x3_28), (2, .int y2_2), (0, .ref h6), (1, .int i1)]) hx hb dX6_ruleAt_61 hl (k := 1) rfl (by rw [ex4_29]; rfl) (by decide) rfl (fun ls hl => ?_)
                      refine lv_goto (tgt := 13) hx hb dX6_ruleAt_64 (by decide) ?_
                      exact ih _ _ _ _ h _ _ _ hP hD hS (lv_sub hl [0, 1, 2, 3, 4] rfl) K
        obtain ⟨⟨z4_30, z3_31⟩, hl_32, h⟩ := bd_s h
        refine L13 FU x4_6 x3_5 _ _ hl_32 _ _ _ hP hD hS (lv_sub hl [0, 1, 2, 3, 4] rfl) (fun H locs ls hP hD hS hl => ?_)
        refine lv_aload_n hx hb dX6_ruleAt_67 rfl (lv_at hl 2 rfl) ?_
        refine lv_iload_n hx hb dX6_ruleAt_68 rfl (lv_at hl 1 rfl) ?_
        obtain ⟨r_33, hc_34, h⟩ := bd_s h
        refine callTi (As := [.int y2_2]) (rest := []) ⟨hx, hb, hml, hown, hts⟩ (c_X6_isRule l D cI cJ h6 labels6a guesses6a comes6a sizes6a words6a told6a behind6a shares6a start6a move6a show6a signs6a many6a bestPath6a nextStart6a nextMove6a nextShow6a thrown6 rows6 labels6 guesses6 comes6 sizes6 words6 up6 down6 weightAbove6 weightBelow6 told6 length6 behind6 shares6 over6 start6 move6 show6 signs6 many6 bestPath6 nextStart6 nextMove6 nextShow6 y2_2 r_33 hc_34) (cwV 1 hts gX6_ruleAt_X6_isRule rfl rfl rfl (by decide +kernel) ⟨Nat.le_of_ble_eq_true rfl, Nat.le_of_ble_eq_true rfl⟩) hK hP hD hS hA 0 5 rfl rfl rfl rfl hl.1 rfl (Nat.le_of_ble_eq_true rfl) dX6_ruleAt_69 ⟨Nat.zero_le _, Nat.zero_le _⟩ (fun H locs hP hD hS => ?_)
        refine lv_if_eq (tgt := 82) hx hb dX6_ruleAt_72 (by decide) (fun c_35 => ?_) (fun c_35 => ?_)
        · have h := it_p c_35 h
          obtain ⟨x2_36, ex2_36⟩ : ∃ z : Int32, z = y2_2 + 1 := ⟨_, rfl⟩
          have h := nm_s h x2_36 ex2_36
          refine lv_iinc (v := x2_36) (lv' := [(2, .int x2_36), (3, .int z3_31), (0, .ref h6), (1, .int i1)]) hx hb dX6_ruleAt_82 hl (k := 1) rfl (by rw [ex2_36]; rfl) (by decide) rfl (fun ls hl => ?_)
          refine lv_goto (tgt := 2) hx hb dX6_ruleAt_85 (by decide) ?_
          exact ih _ _ h _ _ _ hP hD hS (lv_sub hl [0, 2, 3] rfl) KR K
        · have h := it_n c_35 h
          refine lv_iload_n hx hb dX6_ruleAt_75 rfl (lv_at hl 0 rfl) ?_
          refine lv_iload_n hx hb dX6_ruleAt_76 rfl (lv_at hl 3 rfl) ?_
          refine lv_icmp_ne (tgt := 82) hx hb dX6_ruleAt_77 (by decide) (fun c_37 => ?_) (fun c_37 => ?_)
          · have h := it_n c_37 h
            obtain ⟨x2_38, ex2_38⟩ : ∃ z : Int32, z = y2_2 + 1 := ⟨_, rfl⟩
            have h := nm_s h x2_38 ex2_38
            refine lv_iinc (v := x2_38) (lv' := [(2, .int x2_38), (3, .int z3_31), (0, .ref h6), (1, .int i1)]) hx hb dX6_ruleAt_82 hl (k := 1) rfl (by rw [ex2_38]; rfl) (by decide) rfl (fun ls hl => ?_)
            refine lv_goto (tgt := 2) hx hb dX6_ruleAt_85 (by decide) ?_
            exact ih _ _ h _ _ _ hP hD hS (lv_sub hl [0, 2, 3] rfl) KR K
          · have h := it_p c_37 h
            refine lv_iload_n hx hb dX6_ruleAt_80 rfl (lv_at hl 1 rfl) ?_
            cases h
            have e9 := KR _ rfl
            cases e9
            exact hret _ _ _ _ hP hD hS dX6_ruleAt_81
  obtain ⟨res_41, hl_40, h⟩ := bd_s h
  refine L2 FU x2_1 _ hl_40 _ _ _ hP hD hS (lv_sub hl [0, 1, 2] rfl) (fun rt e9 => by subst e9; exact Option.some.inj h) (fun z2_39 e9 H locs ls hP hD hS hl => ?_)
  subst e9
  refine lv_iconst (v := (-1)) hx hb dX6_ruleAt_88 (by decide) ?_
  cases h
  exact hret _ _ _ _ hP hD hS dX6_ruleAt_89
def f_X6_rule (i1 : Int32) (i2 : Int32) (thrown6 : Int32) (rows6 : Int32) (sizes6 : Nat → Int32) (words6 : Nat → Int32) : Option (Int32 × Int32) :=
  nm (α := Int32) (0) fun thrown6_1 =>
  Option.bind (f_X6_within i2 0 4) fun r_2 =>
  if r_2 = 0 then
    some ((-2), thrown6_1)
  else
    Option.bind (f_X6_rules rows6 sizes6 words6) fun r_5 =>
    Option.bind (f_X6_within i1 0 (r_5 - 1)) fun r_7 =>
    if r_7 = 0 then
      some ((-1), thrown6_1)
    else
      Option.bind (f_X6_ruleAt i1 rows6 sizes6 words6) fun r_10 =>
      nm (α := Int32) (r_10) fun x3_12 =>
      dz 8 <|
      dz 8 <|
      Option.bind (f_X6_support (x3_12 / 8) (x3_12 - x3_12 / 8 * 8) rows6 sizes6 words6) fun r_15 =>
      nm (α := Int32) (r_15) fun x4_17 =>
      if i2 = 0 then
        dz 8 <|
        some ((x3_12 / 8), thrown6_1)
      else
        if i2 = 1 then
          dz 8 <|
          some ((x3_12 - x3_12 / 8 * 8), thrown6_1)
        else
          if i2 = 2 then
            some (x4_17, thrown6_1)
          else
            dz 8 <|
            dz 8 <|
            Option.bind (f_X6_support (x3_12 / 8) (x3_12 / 8) rows6 sizes6 words6) fun r_25 =>
            Option.bind (f_X6_side (Int32.toInt64 x4_17) (Int32.toInt64 r_25) (i2 - 3)) fun rj_27 =>
            some ((Int64.toInt32 rj_27), thrown6_1)
set_option maxHeartbeats 4000000 in
set_option maxRecDepth 100000 in
theorem c_X6_rule (l : Launch) (D : va_G) (cI cJ : ClassId) (h6 labels6a guesses6a comes6a sizes6a words6a told6a behind6a shares6a start6a move6a show6a signs6a many6a bestPath6a nextStart6a nextMove6a nextShow6a : Nat) (thrown6 : Int32) (rows6 : Int32) (labels6 : Nat → Int32) (guesses6 : Nat → Int32) (comes6 : Nat → Int32) (sizes6 : Nat → Int32) (words6 : Nat → Int32) (up6 : Int32) (down6 : Int32) (weightAbove6 : Int64) (weightBelow6 : Int64) (told6 : Nat → Int32) (length6 : Int32) (behind6 : Nat → Int32) (shares6 : Nat → Int64) (over6 : Int64) (start6 : Nat → Int32) (move6 : Nat → Int32) (show6 : Nat → Int32) (signs6 : Nat → Int32) (many6 : Nat → Int32) (bestPath6 : Nat → Int32) (nextStart6 : Nat → Int32) (nextMove6 : Nat → Int32) (nextShow6 : Nat → Int32) (i1 : Int32) (i2 : Int32) (ret9 : Int32) (thrown6z : Int32) (h : f_X6_rule i1 i2 thrown6 rows6 sizes6 words6 = some (ret9, thrown6z)) : CI l D cI cJ yX6_rule wsX6_rule 4 98 [.ref h6, .int i1, .int i2] (w6 cI cJ h6 labels6a guesses6a comes6a sizes6a words6a told6a behind6a shares6a start6a move6a show6a signs6a many6a bestPath6a nextStart6a nextMove6a nextShow6a thrown6 rows6 labels6 guesses6 comes6 sizes6 words6 up6 down6 weightAbove6 weightBelow6 told6 length6 behind6 shares6 over6 start6 move6 show6 signs6 many6 bestPath6 nextStart6 nextMove6 nextShow6) (w6 cI cJ h6 labels6a guesses6a comes6a sizes6a words6a told6a behind6a shares6a start6a move6a show6a signs6a many6a bestPath6a nextStart6a nextMove6a nextShow6a thrown6z rows6 labels6 guesses6 comes6 sizes6 words6 up6 down6 weightAbove6 weightBelow6 told6 length6 behind6 shares6 over6 start6 move6 show6 signs6 many6 bestPath6 nextStart6 nextMove6 nextShow6) ret9 := by
  refine entI (cc := cX6_rule) (maxL := 5) (by decide) rfl (Nat.le_of_ble_eq_true rfl) ?_
  intro p e s m args below meth c ls A Q X hret
  obtain ⟨hx, hb, hml, hts, hown, hK, hA, hP, hD, hS, hl, hnm⟩ := X
  have hown : s.vm.findClass RX6 = some m.cls := hown
  have hl : lv_has ls 5 [(0, .ref h6), (1, .int i1), (2, .int i2)] := hl
  have hw1 : (Cond.fieldLink RX6 69 "CountLearnersModel" "thrown" "I").before args s = true := hts _ (by decide +kernel)
  have hinX6 : ∀ w ∈ wsX60, w ∈ wsX6_rule := by decide +kernel
  unfold f_X6_rule at h
  refine lv_aload_n hx hb dX6_rule_0 rfl (lv_at hl 0 rfl) ?_
  refine lv_iconst (v := 0) hx hb dX6_rule_1 (by decide) ?_
  refine lv_topi (fun thrown6_1 ethrown6_1 => ?_)
  have h := nm_s h thrown6_1 ethrown6_1
  refine va_put (D := D) (ci := 5) (v := .int thrown6_1) (ty := .int) (C := RX6) (T := TX6) (N := 25) hx hb hts hinX6 tyX6 tyX6_ok nmX6 hown hK.1 hP hD hS 0 rfl rfl 0 (by decide) hw1 (fun _ h9 => h9) rfl (by decide +kernel) rfl rfl (Nat.le_of_ble_eq_true rfl) dX6_rule_2 (fun H locs hP hD hS => ?_)
  have hP : va_P D vwK (w6 cI cJ h6 labels6a guesses6a comes6a sizes6a words6a told6a behind6a shares6a start6a move6a show6a signs6a many6a bestPath6a nextStart6a nextMove6a nextShow6a thrown6_1 rows6 labels6 guesses6 comes6 sizes6 words6 up6 down6 weightAbove6 weightBelow6 told6 length6 behind6 shares6 over6 start6 move6 show6 signs6 many6 bestPath6 nextStart6 nextMove6 nextShow6) H := hP
  have hD : va_D A (w6 cI cJ h6 labels6a guesses6a comes6a sizes6a words6a told6a behind6a shares6a start6a move6a show6a signs6a many6a bestPath6a nextStart6a nextMove6a nextShow6a thrown6_1 rows6 labels6 guesses6 comes6 sizes6 words6 up6 down6 weightAbove6 weightBelow6 told6 length6 behind6 shares6 over6 start6 move6 show6 signs6 many6 bestPath6 nextStart6 nextMove6 nextShow6) := hD
  refine lv_iload_n hx hb dX6_rule_5 rfl (lv_at hl 2 rfl) ?_
  refine lv_iconst (v := 0) hx hb dX6_rule_6 (by decide) ?_
  refine lv_iconst (v := 4) hx hb dX6_rule_7 (by decide) ?_
  obtain ⟨r_2, hc_3, h⟩ := bd_s h
  refine callPi (As := [.int i2, .int 0, .int 4]) (rest := []) ⟨hx, hb, hml, hown, hts⟩ (c_X6_within l D cI cJ i2 0 4 r_2 hc_3) (va_cwS 3 hts gX6_rule_X6_within rfl rfl rfl (by decide +kernel) ⟨Nat.le_of_ble_eq_true rfl, Nat.le_of_ble_eq_true rfl⟩) hK hP hD hS hA rfl hl.1 rfl (Nat.le_of_ble_eq_true rfl) dX6_rule_8 ⟨Nat.zero_le _, Nat.zero_le _⟩ (fun H locs hP hD hS => ?_)
  refine lv_if_ne (tgt := 17) hx hb dX6_rule_11 (by decide) (fun c_4 => ?_) (fun c_4 => ?_)
  · have h := it_n c_4 h
    refine lv_iload_n hx hb dX6_rule_17 rfl (lv_at hl 1 rfl) ?_
    refine lv_iconst (v := 0) hx hb dX6_rule_18 (by decide) ?_
    refine lv_aload_n hx hb dX6_rule_19 rfl (lv_at hl 0 rfl) ?_
    obtain ⟨r_5, hc_6, h⟩ := bd_s h
    refine callTi (As := []) (rest := [.int 0, .int i1]) ⟨hx, hb, hml, hown, hts⟩ (c_X6_rules l D cI cJ h6 labels6a guesses6a comes6a sizes6a words6a told6a behind6a shares6a start6a move6a show6a signs6a many6a bestPath6a nextStart6a nextMove6a nextShow6a thrown6_1 rows6 labels6 guesses6 comes6 sizes6 words6 up6 down6 weightAbove6 weightBelow6 told6 length6 behind6 shares6 over6 start6 move6 show6 signs6 many6 bestPath6 nextStart6 nextMove6 nextShow6 r_5 hc_6) (cwV 0 hts gX6_rule_X6_rules rfl rfl rfl (by decide +kernel) ⟨Nat.le_of_ble_eq_true rfl, Nat.le_of_ble_eq_true rfl⟩) hK hP hD hS hA 0 5 rfl rfl rfl rfl hl.1 rfl (Nat.le_of_ble_eq_true rfl) dX6_rule_20 ⟨Nat.zero_le _, Nat.zero_le _⟩ (fun H locs hP hD hS => ?_)
    refine lv_iconst (v := 1) hx hb dX6_rule_23 (by decide) ?_
    refine lv_isub hx hb dX6_rule_24 ?_
    obtain ⟨r_7, hc_8, h⟩ := bd_s h
    refine callPi (As := [.int i1, .int 0, .int (r_5 - 1)]) (rest := []) ⟨hx, hb, hml, hown, hts⟩ (c_X6_within l D cI cJ i1 0 (r_5 - 1) r_7 hc_8) (va_cwS 3 hts gX6_rule_X6_within rfl rfl rfl (by decide +kernel) ⟨Nat.le_of_ble_eq_true rfl, Nat.le_of_ble_eq_true rfl⟩) hK hP hD hS hA rfl hl.1 rfl (Nat.le_of_ble_eq_true rfl) dX6_rule_25 ⟨Nat.zero_le _, Nat.zero_le _⟩ (fun H locs hP hD hS => ?_)
    refine lv_if_ne (tgt := 33) hx hb dX6_rule_28 (by decide) (fun c_9 => ?_) (fun c_9 => ?_)
    · have h := it_n c_9 h
      refine lv_aload_n hx hb dX6_rule_33 rfl (lv_at hl 0 rfl) ?_
      refine lv_iload_n hx hb dX6_rule_34 rfl (lv_at hl 1 rfl) ?_
      obtain ⟨r_10, hc_11, h⟩ := bd_s h
      refine callTi (As := [.int i1]) (rest := []) ⟨hx, hb, hml, hown, hts⟩ (c_X6_ruleAt l D cI cJ h6 labels6a guesses6a comes6a sizes6a words6a told6a behind6a shares6a start6a move6a show6a signs6a many6a bestPath6a nextStart6a nextMove6a nextShow6a thrown6_1 rows6 labels6 guesses6 comes6 sizes6 words6 up6 down6 weightAbove6 weightBelow6 told6 length6 behind6 shares6 over6 start6 move6 show6 signs6 many6 bestPath6 nextStart6 nextMove6 nextShow6 i1 r_10 hc_11) (cwV 1 hts gX6_rule_X6_ruleAt rfl rfl rfl (by decide +kernel) ⟨Nat.le_of_ble_eq_true rfl, Nat.le_of_ble_eq_true rfl⟩) hK hP hD hS hA 0 5 rfl rfl rfl rfl hl.1 rfl (Nat.le_of_ble_eq_true rfl) dX6_rule_35 ⟨Nat.zero_le _, Nat.zero_le _⟩ (fun H locs hP hD hS => ?_)
      refine lv_topi (fun x3_12 ex3_12 => ?_)
      have h := nm_s h x3_12 ex3_12
      refine lv_istore_n (lv' := [(3, .int x3_12), (0, .ref h6), (1, .int i1), (2, .int i2)]) hx hb dX6_rule_38 rfl hl (by decide) rfl (fun ls hl => ?_)
      refine lv_aload_n hx hb dX6_rule_39 rfl (lv_at hl 1 rfl) ?_
      refine lv_iload_n hx hb dX6_rule_40 rfl (lv_at hl 0 rfl) ?_
      refine lv_bipush (v := 8) hx hb dX6_rule_41 (by decide) ?_
      obtain ⟨hz_13, h⟩ := dz_s h
      refine lv_idiv hx hb dX6_rule_43 hz_13 ?_
      refine lv_iload_n hx hb dX6_rule_44 rfl (lv_at hl 0 rfl) ?_
      refine lv_bipush (v := 8) hx hb dX6_rule_45 (by decide) ?_
      obtain ⟨hz_14, h⟩ := dz_s h
      refine lv_irem hx hb dX6_rule_47 hz_14 ?_
      obtain ⟨r_15, hc_16, h⟩ := bd_s h
      refine callTi (As := [.int (x3_12 / 8), .int (x3_12 - x3_12 / 8 * 8)]) (rest := []) ⟨hx, hb, hml, hown, hts⟩ (c_X6_support l D cI cJ h6 labels6a guesses6a comes6a sizes6a words6a told6a behind6a shares6a start6a move6a show6a signs6a many6a bestPath6a nextStart6a nextMove6a nextShow6a thrown6_1 rows6 labels6 guesses6 comes6 sizes6 words6 up6 down6 weightAbove6 weightBelow6 told6 length6 behind6 shares6 over6 start6 move6 show6 signs6 many6 bestPath6 nextStart6 nextMove6 nextShow6 (x3_12 / 8) (x3_12 - x3_12 / 8 * 8) r_15 hc_16) (cwV 2 hts gX6_rule_X6_support rfl rfl rfl (by decide +kernel) ⟨Nat.le_of_ble_eq_true rfl, Nat.le_of_ble_eq_true rfl⟩) hK hP hD hS hA 0 5 rfl rfl rfl rfl hl.1 rfl (Nat.le_of_ble_eq_true rfl) dX6_rule_48 ⟨Nat.zero_le _, Nat.zero_le _⟩ (fun H locs hP hD hS => ?_)
      refine lv_topi (fun x4_17 ex4_17 => ?_)
      have h := nm_s h x4_17 ex4_17
      refine lv_istore (lv' := [(4, .int x4_17), (3, .int x3_12), (0, .ref h6), (1, .int i1), (2, .int i2)]) hx hb dX6_rule_51 hl (by decide) rfl (fun ls hl => ?_)
      refine lv_iload_n hx hb dX6_rule_53 rfl (lv_at hl 4 rfl) ?_
      by_cases c_18 : i2 = 0
      · have h := it_p c_18 h
        refine lv_tableIn (off := 26) (tgt := 80) hx hb dX6_rule_54 (by rw [c_18]; decide) (by rw [c_18]; decide) (by rw [c_18]; rfl) (by decide) ?_
        refine lv_iload_n hx hb dX6_rule_80 rfl (lv_at hl 1 rfl) ?_
        refine lv_bipush (v := 8) hx hb dX6_rule_81 (by decide) ?_
        obtain ⟨hz_19, h⟩ := dz_s h
        refine lv_idiv hx hb dX6_rule_83 hz_19 ?_
        cases h
        exact hret _ _ _ _ hP hD hS dX6_rule_84
      · have h := it_n c_18 h
        by_cases c_20 : i2 = 1
        · have h := it_p c_20 h
          refine lv_tableIn (off := 31) (tgt := 85) hx hb dX6_rule_54 (by rw [c_20]; decide) (by rw [c_20]; decide) (by rw [c_20]; rfl) (by decide) ?_
          refine lv_iload_n hx hb dX6_rule_85 rfl (lv_at hl 1 rfl) ?_
          refine lv_bipush (v := 8) hx hb dX6_rule_86 (by decide) ?_
          obtain ⟨hz_21, h⟩ := dz_s h
          refine lv_irem hx hb dX6_rule_88 hz_21 ?_
          cases h
          exact hret _ _ _ _ hP hD hS dX6_rule_89
        · have h := it_n c_20 h
          by_cases c_22 : i2 = 2
          · have h := it_p c_22 h
            refine lv_tableIn (off := 36) (tgt := 90) hx hb dX6_rule_54 (by rw [c_22]; decide) (by rw [c_22]; decide) (by rw [c_22]; rfl) (by decide) ?_
            refine lv_iload hx hb dX6_rule_90 (lv_at hl 0 rfl) ?_
            cases h
            exact hret _ _ _ _ hP hD hS dX6_rule_92
          · have h := it_n c_22 h
            refine lv_tableOut (tgt := 93) hx hb dX6_rule_54 (by have := lv_neT (a := 0) c_18 rfl; have := lv_neT (a := 1) c_20 rfl; have := lv_neT (a := 2) c_22 rfl; omega) (by decide) ?_
            refine lv_iload hx hb dX6_rule_93 (lv_at hl 0 rfl) ?_
            refine lv_i2l (v := (Int32.toInt64 x4_17)) hx hb dX6_rule_95 rfl ?_
            refine lv_aload_n hx hb dX6_rule_96 rfl (lv_at hl 2 rfl) ?_
            refine lv_iload_n hx hb dX6_rule_97 rfl (lv_at hl 1 rfl) ?_
            refine lv_bipush (v := 8) hx hb dX6_rule_98 (by decide) ?_
            obtain ⟨hz_23, h⟩ := dz_s h
            refine lv_idiv hx hb dX6_rule_100 hz_23 ?_
            refine lv_iload_n hx hb dX6_rule_101 rfl (lv_at hl 1 rfl) ?_
            refine lv_bipush (v := 8) hx hb dX6_rule_102 (by decide) ?_
            obtain ⟨hz_24, h⟩ := dz_s h
            refine lv_idiv hx hb dX6_rule_104 hz_24 ?_
            obtain ⟨r_25, hc_26, h⟩ := bd_s h
            refine callTi (As := [.int (x3_12 / 8), .int (x3_12 / 8)]) (rest := [.long (Int32.toInt64 x4_17)]) ⟨hx, hb, hml, hown, hts⟩ (c_X6_support l D cI cJ h6 labels6a guesses6a comes6a sizes6a words6a told6a behind6a shares6a start6a move6a show6a signs6a many6a bestPath6a nextStart6a nextMove6a nextShow6a thrown6_1 rows6 labels6 guesses6 comes6 sizes6 words6 up6 down6 weightAbove6 weightBelow6 told6 length6 behind6 shares6 over6 start6 move6 show6 signs6 many6 bestPath6 nextStart6 nextMove6 nextShow6 (x3_12 / 8) (x3_12 / 8) r_25 hc_26) (cwV 2 hts gX6_rule_X6_support rfl rfl rfl (by decide +kernel) ⟨Nat.le_of_ble_eq_true rfl, Nat.le_of_ble_eq_true rfl⟩) hK hP hD hS hA 0 5 rfl rfl rfl rfl hl.1 rfl (Nat.le_of_ble_eq_true rfl) dX6_rule_105 ⟨Nat.zero_le _, Nat.zero_le _⟩ (fun H locs hP hD hS => ?_)
            refine lv_i2l (v := (Int32.toInt64 r_25)) hx hb dX6_rule_108 rfl ?_
            refine lv_iload_n hx hb dX6_rule_109 rfl (lv_at hl 4 rfl) ?_
            refine lv_iconst (v := 3) hx hb dX6_rule_110 (by decide) ?_
            refine lv_isub hx hb dX6_rule_111 ?_
            obtain ⟨rj_27, hc_28, h⟩ := bd_s h
            refine callPl (As := [.long (Int32.toInt64 x4_17), .long (Int32.toInt64 r_25), .int (i2 - 3)]) (rest := []) ⟨hx, hb, hml, hown, hts⟩ (c_X6_side l D cI cJ (Int32.toInt64 x4_17) (Int32.toInt64 r_25) (i2 - 3) rj_27 hc_28) (va_cwS 3 hts gX6_rule_X6_side rfl rfl rfl (by decide +kernel) ⟨Nat.le_of_ble_eq_true rfl, Nat.le_of_ble_eq_true rfl⟩) hK hP hD hS hA rfl hl.1 rfl (Nat.le_of_ble_eq_true rfl) dX6_rule_112 ⟨Nat.zero_le _, Nat.zero_le _⟩ (fun H locs hP hD hS => ?_)
            refine lv_l2i (v := (Int64.toInt32 rj_27)) hx hb dX6_rule_115 rfl ?_
            cases h
            exact hret _ _ _ _ hP hD hS dX6_rule_116
    · have h := it_p c_9 h
      refine lv_iconst (v := (-1)) hx hb dX6_rule_31 (by decide) ?_
      cases h
      exact hret _ _ _ _ hP hD hS dX6_rule_32
  · have h := it_p c_4 h
    refine lv_bipush (v := (-2)) hx hb dX6_rule_14 (by decide) ?_
    cases h
    exact hret _ _ _ _ hP hD hS dX6_rule_16
def f_X6_count__L51 (rows6 : Int32) (labels6 : Nat → Int32) : Nat → Int32 → Int32 → Option (Int32 × Int32)
  | 0, _, _ => none
  | n + 1, y3_6, y2_7 =>
  if rows6 ≤ y3_6 then
    some (y3_6, y2_7)
  else
    gA 40 labels6 y3_6 fun v_12 =>
    if v_12 < 0 then
      nm (α := Int32) ((y2_7 + 0)) fun x2_14 =>
      nm (α := Int32) (y3_6 + 1) fun x3_15 =>
      f_X6_count__L51 rows6 labels6 n x3_15 x2_14
    else
      nm (α := Int32) ((y2_7 + 1)) fun x2_16 =>
      nm (α := Int32) (y3_6 + 1) fun x3_17 =>
      f_X6_count__L51 rows6 labels6 n x3_17 x2_16
def f_X6_count_ (i1 : Int32) (thrown6 : Int32) (rows6 : Int32) (labels6 : Nat → Int32) (sizes6 : Nat → Int32) (words6 : Nat → Int32) (length6 : Int32) (many6 : Nat → Int32) : Option (Int32 × Int32) :=
  nm (α := Int32) (0) fun thrown6_1 =>
  nm (α := Int32) (0) fun x2_2 =>
  if i1 = 0 then
    some (rows6, thrown6_1)
  else
    if i1 = 1 then
      nm (α := Int32) (0) fun x3_5 =>
      Option.bind (f_X6_count__L51 rows6 labels6 FU x3_5 x2_2) fun (z3_18, z2_19) =>
      some (z2_19, thrown6_1)
    else
      if i1 = 2 then
        some (length6, thrown6_1)
      else
        if i1 = 3 then
          Option.bind (f_X6_rules rows6 sizes6 words6) fun r_23 =>
          some (r_23, thrown6_1)
        else
          if i1 = 4 then
            gA 4 many6 0 fun v_27 =>
            gA 4 many6 1 fun v_29 =>
            gA 4 many6 2 fun v_31 =>
            gA 4 many6 3 fun v_33 =>
            some ((((v_27 + v_29) + v_31) + v_33), thrown6_1)
          else
            some ((-2), thrown6_1)
set_option maxHeartbeats 4000000 in
set_option maxRecDepth 100000 in
theorem c_X6_count_ (l : Launch) (D : va_G) (cI cJ : ClassId) (h6 labels6a guesses6a comes6a sizes6a words6a told6a behind6a shares6a start6a move6a show6a signs6a many6a bestPath6a nextStart6a nextMove6a nextShow6a : Nat) (thrown6 : Int32) (rows6 : Int32) (labels6 : Nat → Int32) (guesses6 : Nat → Int32) (comes6 : Nat → Int32) (sizes6 : Nat → Int32) (words6 : Nat → Int32) (up6 : Int32) (down6 : Int32) (weightAbove6 : Int64) (weightBelow6 : Int64) (told6 : Nat → Int32) (length6 : Int32) (behind6 : Nat → Int32) (shares6 : Nat → Int64) (over6 : Int64) (start6 : Nat → Int32) (move6 : Nat → Int32) (show6 : Nat → Int32) (signs6 : Nat → Int32) (many6 : Nat → Int32) (bestPath6 : Nat → Int32) (nextStart6 : Nat → Int32) (nextMove6 : Nat → Int32) (nextShow6 : Nat → Int32) (i1 : Int32) (ret9 : Int32) (thrown6z : Int32) (h : f_X6_count_ i1 thrown6 rows6 labels6 sizes6 words6 length6 many6 = some (ret9, thrown6z)) : CI l D cI cJ yX6_count_ wsX6_count_ 4 91 [.ref h6, .int i1] (w6 cI cJ h6 labels6a guesses6a comes6a sizes6a words6a told6a behind6a shares6a start6a move6a show6a signs6a many6a bestPath6a nextStart6a nextMove6a nextShow6a thrown6 rows6 labels6 guesses6 comes6 sizes6 words6 up6 down6 weightAbove6 weightBelow6 told6 length6 behind6 shares6 over6 start6 move6 show6 signs6 many6 bestPath6 nextStart6 nextMove6 nextShow6) (w6 cI cJ h6 labels6a guesses6a comes6a sizes6a words6a told6a behind6a shares6a start6a move6a show6a signs6a many6a bestPath6a nextStart6a nextMove6a nextShow6a thrown6z rows6 labels6 guesses6 comes6 sizes6 words6 up6 down6 weightAbove6 weightBelow6 told6 length6 behind6 shares6 over6 start6 move6 show6 signs6 many6 bestPath6 nextStart6 nextMove6 nextShow6) ret9 := by
  refine entI (cc := cX6_count_) (maxL := 4) (by decide) rfl (Nat.le_of_ble_eq_true rfl) ?_
  intro p e s m args below meth c ls A Q X hret
  obtain ⟨hx, hb, hml, hts, hown, hK, hA, hP, hD, hS, hl, hnm⟩ := X
  have hown : s.vm.findClass RX6 = some m.cls := hown
  have hl : lv_has ls 4 [(0, .ref h6), (1, .int i1)] := hl
  have hw1 : (Cond.fieldLink RX6 69 "CountLearnersModel" "thrown" "I").before args s = true := hts _ (by decide +kernel)
  have hinX6 : ∀ w ∈ wsX60, w ∈ wsX6_count_ := by decide +kernel
  have hw3 : (Cond.fieldLink RX6 76 "CountLearnersModel" "rows" "I").before args s = true := hts _ (by decide +kernel)
  have hw4 : (Cond.fieldLink RX6 7 "CountLearnersModel" "labels" "[I").before args s = true := hts _ (by decide +kernel)
  have hw5 : (Cond.fieldLink RX6 142 "CountLearnersModel" "length" "I").before args s = true := hts _ (by decide +kernel)
  have hw6 : (Cond.fieldLink RX6 54 "CountLearnersModel" "many" "[I").before args s = true := hts _ (by decide +kernel)
  unfold f_X6_count_ at h
  refine lv_aload_n hx hb dX6_count__0 rfl (lv_at hl 0 rfl) ?_
  refine lv_iconst (v := 0) hx hb dX6_count__1 (by decide) ?_
  refine lv_topi (fun thrown6_1 ethrown6_1 => ?_)
  have h := nm_s h thrown6_1 ethrown6_1
  refine va_put (D := D) (ci := 5) (v := .int thrown6_1) (ty := .int) (C := RX6) (T := TX6) (N := 25) hx hb hts hinX6 tyX6 tyX6_ok nmX6 hown hK.1 hP hD hS 0 rfl rfl 0 (by decide) hw1 (fun _ h9 => h9) rfl (by decide +kernel) rfl rfl (Nat.le_of_ble_eq_true rfl) dX6_count__2 (fun H locs hP hD hS => ?_)
  have hP : va_P D vwK (w6 cI cJ h6 labels6a guesses6a comes6a sizes6a words6a told6a behind6a shares6a start6a move6a show6a signs6a many6a bestPath6a nextStart6a nextMove6a nextShow6a thrown6_1 rows6 labels6 guesses6 comes6 sizes6 words6 up6 down6 weightAbove6 weightBelow6 told6 length6 behind6 shares6 over6 start6 move6 show6 signs6 many6 bestPath6 nextStart6 nextMove6 nextShow6) H := hP
  have hD : va_D A (w6 cI cJ h6 labels6a guesses6a comes6a sizes6a words6a told6a behind6a shares6a start6a move6a show6a signs6a many6a bestPath6a nextStart6a nextMove6a nextShow6a thrown6_1 rows6 labels6 guesses6 comes6 sizes6 words6 up6 down6 weightAbove6 weightBelow6 told6 length6 behind6 shares6 over6 start6 move6 show6 signs6 many6 bestPath6 nextStart6 nextMove6 nextShow6) := hD
  refine lv_iconst (v := 0) hx hb dX6_count__5 (by decide) ?_
  refine lv_topi (fun x2_2 ex2_2 => ?_)
  have h := nm_s h x2_2 ex2_2
  refine lv_istore_n (lv' := [(2, .int x2_2), (0, .ref h6), (1, .int i1)]) hx hb dX6_count__6 rfl hl (by decide) rfl (fun ls hl => ?_)
  refine lv_iload_n hx hb dX6_count__7 rfl (lv_at hl 2 rfl) ?_
  by_cases c_3 : i1 = 0
  · have h := it_p c_3 h
    refine lv_tableIn (off := 36) (tgt := 44) hx hb dX6_count__8 (by rw [c_3]; decide) (by rw [c_3]; decide) (by rw [c_3]; rfl) (by decide) ?_
    refine lv_aload_n hx hb dX6_count__44 rfl (lv_at hl 1 rfl) ?_
    refine va_get (D := D) (ci := 5) (v := .int rows6) (C := RX6) (T := TX6) (N := 25) hx hb hts hinX6 hown hK.1 hP 0 rfl rfl 1 (by decide) hw3 (fun _ h9 => h9) rfl dX6_count__45 ?_
    cases h
    exact hret _ _ _ _ hP hD hS dX6_count__48
  · have h := it_n c_3 h
    by_cases c_4 : i1 = 1
    · have h := it_p c_4 h
      refine lv_tableIn (off := 41) (tgt := 49) hx hb dX6_count__8 (by rw [c_4]; decide) (by rw [c_4]; decide) (by rw [c_4]; rfl) (by decide) ?_
      refine lv_iconst (v := 0) hx hb dX6_count__49 (by decide) ?_
      refine lv_topi (fun x3_5 ex3_5 => ?_)
      have h := nm_s h x3_5 ex3_5
      refine lv_istore_n (lv' := [(3, .int x3_5), (2, .int x2_2), (0, .ref h6), (1, .int i1)]) hx hb dX6_count__50 rfl hl (by decide) rfl (fun ls hl => ?_)
      have L51 : ∀ (n : Nat) (y3_6 : Int32) (y2_7 : Int32) (z3_8 : Int32) (z2_9 : Int32), f_X6_count__L51 rows6 labels6 n y3_6 y2_7 = some (z3_8, z2_9) → ∀ (H : Heap) (locs : List Loc) (ls : Array Slot), va_P D vwK (w6 cI cJ h6 labels6a guesses6a comes6a sizes6a words6a told6a behind6a shares6a start6a move6a show6a signs6a many6a bestPath6a nextStart6a nextMove6a nextShow6a thrown6_1 rows6 labels6 guesses6 comes6 sizes6 words6 up6 down6 weightAbove6 weightBelow6 told6 length6 behind6 shares6 over6 start6 move6 show6 signs6 many6 bestPath6 nextStart6 nextMove6 nextShow6) H → va_D A (w6 cI cJ h6 labels6a guesses6a comes6a sizes6a words6a told6a behind6a shares6a start6a move6a show6a signs6a many6a bestPath6a nextStart6a nextMove6a nextShow6a thrown6_1 rows6 labels6 guesses6 comes6 sizes6 words6 up6 down6 weightAbove6 weightBelow6 told6 length6 behind6 shares6 over6 start6 move6 show6 signs6 many6 bestPath6 nextStart6 nextMove6 nextShow6) → va_S A s.heap H locs → lv_has ls 4 [(3, .int y3_6), (2, .int y2_7), (0, .ref h6)] → (∀ (H : Heap) (locs : List Loc) (ls : Array Slot), va_P D vwK (w6 cI cJ h6 labels6a guesses6a comes6a sizes6a words6a told6a behind6a shares6a start6a move6a show6a signs6a many6a bestPath6a nextStart6a nextMove6a nextShow6a thrown6_1 rows6 labels6 guesses6 comes6 sizes6 words6 up6 down6 weightAbove6 weightBelow6 told6 length6 behind6 shares6 over6 start6 move6 show6 signs6 many6 bestPath6 nextStart6 nextMove6 nextShow6) H → va_D A (w6 cI cJ h6 labels6a guesses6a comes6a sizes6a words6a told6a behind6a shares6a start6a move6a show6a signs6a many6a bestPath6a nextStart6a nextMove6a nextShow6a thrown6_1 rows6 labels6 guesses6 comes6 sizes6 words6 up6 down6 weightAbove6 weightBelow6 told6 length6 behind6 shares6 over6 start6 move6 show6 signs6 many6 bestPath6 nextStart6 nextMove6 nextShow6) → va_S A s.heap H locs → lv_has ls 4 [(2, .int z2_9)] → W p l e (rmOf 4 91) s m args below meth c H locs 0 0 Q (F0 m 82 ls [])) → W p l e (rmOf 4 91) s m args below meth c H locs 0 0 Q (F0 m 51 ls []) := by
        intro n
        induction n with
        | zero => intro y3_6 y2_7 z3_8 z2_9 h; rw [f_X6_count__L51.eq_1] at h; cases h
        | succ n ih =>
          intro y3_6 y2_7 z3_8 z2_9 h H locs ls hP hD hS hl K
          rw [f_X6_count__L51.eq_2] at h
          refine lv_iload_n hx hb dX6_count__51 rfl (lv_at hl 0 rfl) ?_
          refine lv_aload_n hx hb dX6_count__52 rfl (lv_at hl 2 rfl) ?_
          refine va_get (D := D) (ci := 5) (v := .int rows6) (C := RX6) (T := TX6) (N := 25) hx hb hts hinX6 hown hK.1 hP 0 rfl rfl 1 (by decide) hw3 (fun _ h9 => h9) rfl dX6_count__53 ?_
          refine lv_icmp_ge (tgt := 82) hx hb dX6_count__56 (by decide) (fun c_10 => ?_) (fun c_10 => ?_)
          · have h := it_p c_10 h
            cases h
            exact K _ _ _ hP hD hS (lv_sub hl [1] rfl)
          · have h := it_n c_10 h
            refine lv_iload_n hx hb dX6_count__59 rfl (lv_at hl 1 rfl) ?_
            refine lv_aload_n hx hb dX6_count__60 rfl (lv_at hl 2 rfl) ?_
            refine va_get (D := D) (ci := 5) (v := .ref labels6a) (C := RX6) (T := TX6) (N := 25) hx hb hts hinX6 hown hK.1 hP 0 rfl rfl 2 (by decide) hw4 (fun _ h9 => h9) rfl dX6_count__61 ?_
            refine lv_iload_n hx hb dX6_count__64 rfl (lv_at hl 0 rfl) ?_
            obtain ⟨hi_11, h⟩ := gA_s h
            refine va_iald hx hb hK.1 hP 1 0 rfl rfl hi_11 dX6_count__65 ?_
            refine lv_topi (fun v_12 ev_12 => ?_)
            have h := h v_12 ev_12
            refine lv_if_lt (tgt := 73) hx hb dX6_count__66 (by decide) (fun c_13 => ?_) (fun c_13 => ?_)
            · have h := it_p c_13 h
              refine lv_iconst (v := 0) hx hb dX6_count__73 (by decide) ?_
              refine lv_iadd hx hb dX6_count__74 ?_
              refine lv_topi (fun x2_14 ex2_14 => ?_)
              have h := nm_s h x2_14 ex2_14
              refine lv_istore_n (lv' := [(2, .int x2_14), (3, .int y3_6), (0, .ref h6)]) hx hb dX6_count__75 rfl hl (by decide) rfl (fun ls hl => ?_)
              obtain ⟨x3_15, ex3_15⟩ : ∃ z : Int32, z = y3_6 + 1 := ⟨_, rfl⟩
              have h := nm_s h x3_15 ex3_15
              refine lv_iinc (v := x3_15) (lv' := [(3, .int x3_15), (2, .int x2_14), (0, .ref h6)]) hx hb dX6_count__76 hl (k := 1) rfl (by rw [ex3_15]; rfl) (by decide) rfl (fun ls hl => ?_)
              refine lv_goto (tgt := 51) hx hb dX6_count__79 (by decide) ?_
              exact ih _ _ _ _ h _ _ _ hP hD hS (lv_sub hl [0, 1, 2] rfl) K
            · have h := it_n c_13 h
              refine lv_iconst (v := 1) hx hb dX6_count__69 (by decide) ?_
              refine lv_goto (tgt := 74) hx hb dX6_count__70 (by decide) ?_
              refine lv_iadd hx hb dX6_count__74 ?_
              refine lv_topi (fun x2_16 ex2_16 => ?_)
              have h := nm_s h x2_16 ex2_16
              refine lv_istore_n (lv' := [(2, .int x2_16), (3, .int y3_6), (0, .ref h6)]) hx hb dX6_count__75 rfl hl (by decide) rfl (fun ls hl => ?_)
              obtain ⟨x3_17, ex3_17⟩ : ∃ z : Int32, z = y3_6 + 1 := ⟨_, rfl⟩
              have h := nm_s h x3_17 ex3_17
              refine lv_iinc (v := x3_17) (lv' := [(3, .int x3_17), (2, .int x2_16), (0, .ref h6)]) hx hb dX6_count__76 hl (k := 1) rfl (by rw [ex3_17]; rfl) (by decide) rfl (fun ls hl => ?_)
              refine lv_goto (tgt := 51) hx hb dX6_count__79 (by decide) ?_
              exact ih _ _ _ _ h _ _ _ hP hD hS (lv_sub hl [0, 1, 2] rfl) K
      obtain ⟨⟨z3_18, z2_19⟩, hl_20, h⟩ := bd_s h
      refine L51 FU x3_5 x2_2 _ _ hl_20 _ _ _ hP hD hS (lv_sub hl [0, 1, 2] rfl) (fun H locs ls hP hD hS hl => ?_)
      refine lv_iload_n hx hb dX6_count__82 rfl (lv_at hl 0 rfl) ?_
      cases h
      exact hret _ _ _ _ hP hD hS dX6_count__83
    · have h := it_n c_4 h
      by_cases c_21 : i1 = 2
      · have h := it_p c_21 h
        refine lv_tableIn (off := 76) (tgt := 84) hx hb dX6_count__8 (by rw [c_21]; decide) (by rw [c_21]; decide) (by rw [c_21]; rfl) (by decide) ?_
        refine lv_aload_n hx hb dX6_count__84 rfl (lv_at hl 1 rfl) ?_
        refine va_get (D := D) (ci := 5) (v := .int length6) (C := RX6) (T := TX6) (N := 25) hx hb hts hinX6 hown hK.1 hP 0 rfl rfl 12 (by decide) hw5 (fun _ h9 => h9) rfl dX6_count__85 ?_
        cases h
        exact hret _ _ _ _ hP hD hS dX6_count__88
      · have h := it_n c_21 h
        by_cases c_22 : i1 = 3
        · have h := it_p c_22 h
          refine lv_tableIn (off := 81) (tgt := 89) hx hb dX6_count__8 (by rw [c_22]; decide) (by rw [c_22]; decide) (by rw [c_22]; rfl) (by decide) ?_
          refine lv_aload_n hx hb dX6_count__89 rfl (lv_at hl 1 rfl) ?_
          obtain ⟨r_23, hc_24, h⟩ := bd_s h
          refine callTi (As := []) (rest := []) ⟨hx, hb, hml, hown, hts⟩ (c_X6_rules l D cI cJ h6 labels6a guesses6a comes6a sizes6a words6a told6a behind6a shares6a start6a move6a show6a signs6a many6a bestPath6a nextStart6a nextMove6a nextShow6a thrown6_1 rows6 labels6 guesses6 comes6 sizes6 words6 up6 down6 weightAbove6 weightBelow6 told6 length6 behind6 shares6 over6 start6 move6 show6 signs6 many6 bestPath6 nextStart6 nextMove6 nextShow6 r_23 hc_24) (cwV 0 hts gX6_count__X6_rules rfl rfl rfl (by decide +kernel) ⟨Nat.le_of_ble_eq_true rfl, Nat.le_of_ble_eq_true rfl⟩) hK hP hD hS hA 0 5 rfl rfl rfl rfl hl.1 rfl (Nat.le_of_ble_eq_true rfl) dX6_count__90 ⟨Nat.zero_le _, Nat.zero_le _⟩ (fun H locs hP hD hS => ?_)
          cases h
          exact hret _ _ _ _ hP hD hS dX6_count__93
        · have h := it_n c_22 h
          by_cases c_25 : i1 = 4
          · have h := it_p c_25 h
            refine lv_tableIn (off := 86) (tgt := 94) hx hb dX6_count__8 (by rw [c_25]; decide) (by rw [c_25]; decide) (by rw [c_25]; rfl) (by decide) ?_
            refine lv_aload_n hx hb dX6_count__94 rfl (lv_at hl 1 rfl) ?_
            refine va_get (D := D) (ci := 5) (v := .ref many6a) (C := RX6) (T := TX6) (N := 25) hx hb hts hinX6 hown hK.1 hP 0 rfl rfl 20 (by decide) hw6 (fun _ h9 => h9) rfl dX6_count__95 ?_
            refine lv_iconst (v := 0) hx hb dX6_count__98 (by decide) ?_
            obtain ⟨hi_26, h⟩ := gA_s h
            refine va_iald hx hb hK.1 hP 13 0 rfl rfl hi_26 dX6_count__99 ?_
            refine lv_topi (fun v_27 ev_27 => ?_)
            have h := h v_27 ev_27
            refine lv_aload_n hx hb dX6_count__100 rfl (lv_at hl 1 rfl) ?_
            refine va_get (D := D) (ci := 5) (v := .ref many6a) (C := RX6) (T := TX6) (N := 25) hx hb hts hinX6 hown hK.1 hP 0 rfl rfl 20 (by decide) hw6 (fun _ h9 => h9) rfl dX6_count__101 ?_
            refine lv_iconst (v := 1) hx hb dX6_count__104 (by decide) ?_
            obtain ⟨hi_28, h⟩ := gA_s h
            refine va_iald hx hb hK.1 hP 13 0 rfl rfl hi_28 dX6_count__105 ?_
            refine lv_topi (fun v_29 ev_29 => ?_)
            have h := h v_29 ev_29
            refine lv_iadd hx hb dX6_count__106 ?_
            refine lv_aload_n hx hb dX6_count__107 rfl (lv_at hl 1 rfl) ?_
            refine va_get (D := D) (ci := 5) (v := .ref many6a) (C := RX6) (T := TX6) (N := 25) hx hb hts hinX6 hown hK.1 hP 0 rfl rfl 20 (by decide) hw6 (fun _ h9 => h9) rfl dX6_count__108 ?_
            refine lv_iconst (v := 2) hx hb dX6_count__111 (by decide) ?_
            obtain ⟨hi_30, h⟩ := gA_s h
            refine va_iald hx hb hK.1 hP 13 0 rfl rfl hi_30 dX6_count__112 ?_
            refine lv_topi (fun v_31 ev_31 => ?_)
            have h := h v_31 ev_31
            refine lv_iadd hx hb dX6_count__113 ?_
            refine lv_aload_n hx hb dX6_count__114 rfl (lv_at hl 1 rfl) ?_
            refine va_get (D := D) (ci := 5) (v := .ref many6a) (C := RX6) (T := TX6) (N := 25) hx hb hts hinX6 hown hK.1 hP 0 rfl rfl 20 (by decide) hw6 (fun _ h9 => h9) rfl dX6_count__115 ?_
            refine lv_iconst (v := 3) hx hb dX6_count__118 (by decide) ?_
            obtain ⟨hi_32, h⟩ := gA_s h
            refine va_iald hx hb hK.1 hP 13 0 rfl rfl hi_32 dX6_count__119 ?_
            refine lv_topi (fun v_33 ev_33 => ?_)
            have h := h v_33 ev_33
            refine lv_iadd hx hb dX6_count__120 ?_
            cases h
            exact hret _ _ _ _ hP hD hS dX6_count__121
          · have h := it_n c_25 h
            refine lv_tableOut (tgt := 122) hx hb dX6_count__8 (by have := lv_neT (a := 0) c_3 rfl; have := lv_neT (a := 1) c_4 rfl; have := lv_neT (a := 2) c_21 rfl; have := lv_neT (a := 3) c_22 rfl; have := lv_neT (a := 4) c_25 rfl; omega) (by decide) ?_
            refine lv_bipush (v := (-2)) hx hb dX6_count__122 (by decide) ?_
            cases h
            exact hret _ _ _ _ hP hD hS dX6_count__124
