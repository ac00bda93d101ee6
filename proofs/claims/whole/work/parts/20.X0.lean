def f_X5_setAll_L2 (i1 : Int32) (n0 : Nat) : Nat → Int32 → (Nat → Int32) → Option (Int32 × (Nat → Int32))
  | 0, _, _ => none
  | n + 1, y2_2, arr0_3 =>
  if (Int32.ofNat n0) ≤ y2_2 then
    some (y2_2, arr0_3)
  else
    sI n0 arr0_3 y2_2 i1 fun arr0_8 =>
    nm (α := Int32) (y2_2 + 1) fun x2_9 =>
    f_X5_setAll_L2 i1 n0 n x2_9 arr0_8
def f_X5_setAll (n0 : Nat) (arr0 : Nat → Int32) (i1 : Int32) : Option ((Nat → Int32)) :=
  nm (α := Int32) (0) fun x2_1 =>
  Option.bind (f_X5_setAll_L2 i1 n0 FU x2_1 arr0) fun (z2_10, arr0_11) =>
  some arr0_11
set_option maxHeartbeats 4000000 in
set_option maxRecDepth 100000 in
theorem c_X5_setAll (l : Launch) (D : va_G) (cI cJ : ClassId) (a0 : Nat) (n0 : Nat) (arr0 : Nat → Int32) (i1 : Int32) (arr0z : Nat → Int32) (h : f_X5_setAll n0 arr0 i1 = some arr0z) : CV l D cI cJ yX5_setAll wsX5_setAll 0 0 [.ref a0, .int i1] ([(a0, .inl (cI, n0, .inl arr0))]) ([(a0, .inl (cI, n0, .inl arr0z))]) := by
  refine entV (cc := cX5_setAll) (maxL := 3) (by decide) rfl (Nat.le_of_ble_eq_true rfl) ?_
  intro p e s m args below meth c ls A Q X hret
  obtain ⟨hx, hb, hml, hts, hown, hK, hA, hP, hD, hS, hl, hnm⟩ := X
  have hown : s.vm.findClass RX5 = some m.cls := hown
  have hl : lv_has ls 3 [(0, .ref a0), (1, .int i1)] := hl
  unfold f_X5_setAll at h
  refine lv_iconst (v := 0) hx hb dX5_setAll_0 (by decide) ?_
  refine lv_topi (fun x2_1 ex2_1 => ?_)
  have h := nm_s h x2_1 ex2_1
  refine lv_istore_n (lv' := [(2, .int x2_1), (0, .ref a0), (1, .int i1)]) hx hb dX5_setAll_1 rfl hl (by decide) rfl (fun ls hl => ?_)
  have L2 : ∀ (n : Nat) (y2_2 : Int32) (arr0_3 : Nat → Int32) (z2_4 : Int32) (arr0_5 : Nat → Int32), f_X5_setAll_L2 i1 n0 n y2_2 arr0_3 = some (z2_4, arr0_5) → ∀ (H : Heap) (locs : List Loc) (ls : Array Slot), va_P D vwK ([(a0, .inl (cI, n0, .inl arr0_3))]) H → va_D A ([(a0, .inl (cI, n0, .inl arr0_3))]) → va_S A s.heap H locs → lv_has ls 3 [(2, .int y2_2), (0, .ref a0), (1, .int i1)] → (∀ (H : Heap) (locs : List Loc) (ls : Array Slot), va_P D vwK ([(a0, .inl (cI, n0, .inl arr0_5))]) H → va_D A ([(a0, .inl (cI, n0, .inl arr0_5))]) → va_S A s.heap H locs → lv_has ls 3 [] → W p l e (rmOf 0 0) s m args below meth c H locs 0 0 Q (F0 m 18 ls [])) → W p l e (rmOf 0 0) s m args below meth c H locs 0 0 Q (F0 m 2 ls []) := by
    intro n
    induction n with
    | zero => intro y2_2 arr0_3 z2_4 arr0_5 h; rw [f_X5_setAll_L2.eq_1] at h; cases h
    | succ n ih =>
      intro y2_2 arr0_3 z2_4 arr0_5 h H locs ls hP hD hS hl K
      rw [f_X5_setAll_L2.eq_2] at h
      refine lv_iload_n hx hb dX5_setAll_2 rfl (lv_at hl 0 rfl) ?_
      refine lv_aload_n hx hb dX5_setAll_3 rfl (lv_at hl 1 rfl) ?_
      refine va_alen (v := (Int32.ofNat n0)) hx hb hK.1 hP 0 0 rfl rfl rfl dX5_setAll_4 ?_
      refine lv_icmp_ge (tgt := 18) hx hb dX5_setAll_5 (by decide) (fun c_6 => ?_) (fun c_6 => ?_)
      · have h := it_p c_6 h
        cases h
        exact K _ _ _ hP hD hS (lv_sub hl [] rfl)
      · have h := it_n c_6 h
        refine lv_aload_n hx hb dX5_setAll_8 rfl (lv_at hl 1 rfl) ?_
        refine lv_iload_n hx hb dX5_setAll_9 rfl (lv_at hl 0 rfl) ?_
        refine lv_iload_n hx hb dX5_setAll_10 rfl (lv_at hl 2 rfl) ?_
        obtain ⟨hi_7, h⟩ := sI_s h
        refine va_iast hx hb hK.1 hP hD hS 0 0 rfl rfl hi_7 dX5_setAll_11 (fun H locs hP hD hS => ?_)
        obtain ⟨arr0_8, earr0_8⟩ : ∃ z, z = upd arr0_3 (Int32.toNatClampNeg y2_2) i1 := ⟨_, rfl⟩
        have h := h arr0_8 earr0_8
        rw [← earr0_8] at hP hD
        have hP : va_P D vwK ([(a0, .inl (cI, n0, .inl arr0_8))]) H := hP
        have hD : va_D A ([(a0, .inl (cI, n0, .inl arr0_8))]) := hD
        obtain ⟨x2_9, ex2_9⟩ : ∃ z : Int32, z = y2_2 + 1 := ⟨_, rfl⟩
        have h := nm_s h x2_9 ex2_9
        refine lv_iinc (v := x2_9) (lv' := [(2, .int x2_9), (0, .ref a0), (1, .int i1)]) hx hb dX5_setAll_12 hl (k := 0) rfl (by rw [ex2_9]; rfl) (by decide) rfl (fun ls hl => ?_)
        refine lv_goto (tgt := 2) hx hb dX5_setAll_15 (by decide) ?_
        exact ih _ _ _ _ h _ _ _ hP hD hS (lv_sub hl [0, 1, 2] rfl) K
  obtain ⟨⟨z2_10, arr0_11⟩, hl_12, h⟩ := bd_s h
  refine L2 FU x2_1 arr0 _ _ hl_12 _ _ _ hP hD hS (lv_sub hl [0, 1, 2] rfl) (fun H locs ls hP hD hS hl => ?_)
  cases h
  exact hret _ _ _ _ hP hD hS dX5_setAll_18
def f_X5_isWithin (i0 : Int32) (i1 : Int32) (i2 : Int32) : Option (Int32) :=
  if i0 < i1 then
    some 0
  else
    if i2 < i0 then
      some 0
    else
      some 1
set_option maxHeartbeats 4000000 in
set_option maxRecDepth 100000 in
theorem c_X5_isWithin (l : Launch) (D : va_G) (cI cJ : ClassId) (i0 : Int32) (i1 : Int32) (i2 : Int32) (ret9 : Int32) (h : f_X5_isWithin i0 i1 i2 = some ret9) : CI l D cI cJ yX5_isWithin wsX5_isWithin 0 0 [.int i0, .int i1, .int i2] [] [] ret9 := by
  refine entZ (cc := cX5_isWithin) (maxL := 3) (by decide) rfl (Nat.le_of_ble_eq_true rfl) ?_
  intro p e s m args below meth c ls A Q X hret
  obtain ⟨hx, hb, hml, hts, hown, hK, hA, hP, hD, hS, hl, hnm⟩ := X
  have hown : s.vm.findClass RX5 = some m.cls := hown
  have hl : lv_has ls 3 [(0, .int i0), (1, .int i1), (2, .int i2)] := hl
  unfold f_X5_isWithin at h
  refine lv_iload_n hx hb dX5_isWithin_0 rfl (lv_at hl 0 rfl) ?_
  refine lv_iload_n hx hb dX5_isWithin_1 rfl (lv_at hl 1 rfl) ?_
  refine lv_icmp_lt (tgt := 14) hx hb dX5_isWithin_2 (by decide) (fun c_1 => ?_) (fun c_1 => ?_)
  · have h := it_p c_1 h
    refine lv_iconst (v := 0) hx hb dX5_isWithin_14 (by decide) ?_
    cases h
    exact hret _ _ _ _ (Or.inl rfl) hP hD hS dX5_isWithin_15
  · have h := it_n c_1 h
    refine lv_iload_n hx hb dX5_isWithin_5 rfl (lv_at hl 0 rfl) ?_
    refine lv_iload_n hx hb dX5_isWithin_6 rfl (lv_at hl 2 rfl) ?_
    refine lv_icmp_gt (tgt := 14) hx hb dX5_isWithin_7 (by decide) (fun c_2 => ?_) (fun c_2 => ?_)
    · have h := it_p c_2 h
      refine lv_iconst (v := 0) hx hb dX5_isWithin_14 (by decide) ?_
      cases h
      exact hret _ _ _ _ (Or.inl rfl) hP hD hS dX5_isWithin_15
    · have h := it_n c_2 h
      refine lv_iconst (v := 1) hx hb dX5_isWithin_10 (by decide) ?_
      refine lv_goto (tgt := 15) hx hb dX5_isWithin_11 (by decide) ?_
      cases h
      exact hret _ _ _ _ (Or.inr rfl) hP hD hS dX5_isWithin_15
def f_X5_isLabel (i0 : Int32) : Option (Int32) :=
  Option.bind (f_X5_isWithin i0 0 3) fun r_1 =>
  bz r_1 <|
  some r_1
set_option maxHeartbeats 4000000 in
set_option maxRecDepth 100000 in
theorem c_X5_isLabel (l : Launch) (D : va_G) (cI cJ : ClassId) (i0 : Int32) (ret9 : Int32) (h : f_X5_isLabel i0 = some ret9) : CI l D cI cJ yX5_isLabel wsX5_isLabel 1 22 [.int i0] [] [] ret9 := by
  refine entZ (cc := cX5_isLabel) (maxL := 1) (by decide) rfl (Nat.le_of_ble_eq_true rfl) ?_
  intro p e s m args below meth c ls A Q X hret
  obtain ⟨hx, hb, hml, hts, hown, hK, hA, hP, hD, hS, hl, hnm⟩ := X
  have hown : s.vm.findClass RX5 = some m.cls := hown
  have hl : lv_has ls 1 [(0, .int i0)] := hl
  unfold f_X5_isLabel at h
  refine lv_iload_n hx hb dX5_isLabel_0 rfl (lv_at hl 0 rfl) ?_
  refine lv_iconst (v := 0) hx hb dX5_isLabel_1 (by decide) ?_
  refine lv_iconst (v := 3) hx hb dX5_isLabel_2 (by decide) ?_
  obtain ⟨r_1, hc_2, h⟩ := bd_s h
  refine callPi (As := [.int i0, .int 0, .int 3]) (rest := []) ⟨hx, hb, hml, hown, hts⟩ (c_X5_isWithin l D cI cJ i0 0 3 r_1 hc_2) (va_cwS 3 hts gX5_isLabel_X5_isWithin rfl rfl rfl (by decide +kernel) ⟨Nat.le_of_ble_eq_true rfl, Nat.le_of_ble_eq_true rfl⟩) hK hP hD hS hA rfl hl.1 rfl (Nat.le_of_ble_eq_true rfl) dX5_isLabel_3 ⟨Nat.zero_le _, Nat.zero_le _⟩ (fun H locs hP hD hS => ?_)
  obtain ⟨hz_3, h⟩ := bz_s h
  cases h
  exact hret _ _ _ _ hz_3 hP hD hS dX5_isLabel_6
def f_X5_isLabelOrNone (i0 : Int32) : Option (Int32) :=
  if i0 = (-1) then
    some 1
  else
    Option.bind (f_X5_isLabel i0) fun r_2 =>
    if r_2 = 0 then
      some 0
    else
      some 1
set_option maxHeartbeats 4000000 in
set_option maxRecDepth 100000 in
theorem c_X5_isLabelOrNone (l : Launch) (D : va_G) (cI cJ : ClassId) (i0 : Int32) (ret9 : Int32) (h : f_X5_isLabelOrNone i0 = some ret9) : CI l D cI cJ yX5_isLabelOrNone wsX5_isLabelOrNone 2 42 [.int i0] [] [] ret9 := by
  refine entZ (cc := cX5_isLabelOrNone) (maxL := 1) (by decide) rfl (Nat.le_of_ble_eq_true rfl) ?_
  intro p e s m args below meth c ls A Q X hret
  obtain ⟨hx, hb, hml, hts, hown, hK, hA, hP, hD, hS, hl, hnm⟩ := X
  have hown : s.vm.findClass RX5 = some m.cls := hown
  have hl : lv_has ls 1 [(0, .int i0)] := hl
  unfold f_X5_isLabelOrNone at h
  refine lv_iload_n hx hb dX5_isLabelOrNone_0 rfl (lv_at hl 0 rfl) ?_
  refine lv_iconst (v := (-1)) hx hb dX5_isLabelOrNone_1 (by decide) ?_
  refine lv_icmp_eq (tgt := 12) hx hb dX5_isLabelOrNone_2 (by decide) (fun c_1 => ?_) (fun c_1 => ?_)
  · have h := it_p c_1 h
    refine lv_iconst (v := 1) hx hb dX5_isLabelOrNone_12 (by decide) ?_
    refine lv_goto (tgt := 17) hx hb dX5_isLabelOrNone_13 (by decide) ?_
    cases h
    exact hret _ _ _ _ (Or.inr rfl) hP hD hS dX5_isLabelOrNone_17
  · have h := it_n c_1 h
    refine lv_iload_n hx hb dX5_isLabelOrNone_5 rfl (lv_at hl 0 rfl) ?_
    obtain ⟨r_2, hc_3, h⟩ := bd_s h
    refine callPi (As := [.int i0]) (rest := []) ⟨hx, hb, hml, hown, hts⟩ (c_X5_isLabel l D cI cJ i0 r_2 hc_3) (va_cwS 1 hts gX5_isLabelOrNone_X5_isLabel rfl rfl rfl (by decide +kernel) ⟨Nat.le_of_ble_eq_true rfl, Nat.le_of_ble_eq_true rfl⟩) hK hP hD hS hA rfl hl.1 rfl (Nat.le_of_ble_eq_true rfl) dX5_isLabelOrNone_6 ⟨Nat.zero_le _, Nat.zero_le _⟩ (fun H locs hP hD hS => ?_)
    refine lv_if_eq (tgt := 16) hx hb dX5_isLabelOrNone_9 (by decide) (fun c_4 => ?_) (fun c_4 => ?_)
    · have h := it_p c_4 h
      refine lv_iconst (v := 0) hx hb dX5_isLabelOrNone_16 (by decide) ?_
      cases h
      exact hret _ _ _ _ (Or.inl rfl) hP hD hS dX5_isLabelOrNone_17
    · have h := it_n c_4 h
      refine lv_iconst (v := 1) hx hb dX5_isLabelOrNone_12 (by decide) ?_
      refine lv_goto (tgt := 17) hx hb dX5_isLabelOrNone_13 (by decide) ?_
      cases h
      exact hret _ _ _ _ (Or.inr rfl) hP hD hS dX5_isLabelOrNone_17
def f_X5_isWord (i0 : Int32) : Option (Int32) :=
  Option.bind (f_X5_isWithin i0 0 7) fun r_1 =>
  bz r_1 <|
  some r_1
set_option maxHeartbeats 4000000 in
set_option maxRecDepth 100000 in
theorem c_X5_isWord (l : Launch) (D : va_G) (cI cJ : ClassId) (i0 : Int32) (ret9 : Int32) (h : f_X5_isWord i0 = some ret9) : CI l D cI cJ yX5_isWord wsX5_isWord 1 22 [.int i0] [] [] ret9 := by
  refine entZ (cc := cX5_isWord) (maxL := 1) (by decide) rfl (Nat.le_of_ble_eq_true rfl) ?_
  intro p e s m args below meth c ls A Q X hret
  obtain ⟨hx, hb, hml, hts, hown, hK, hA, hP, hD, hS, hl, hnm⟩ := X
  have hown : s.vm.findClass RX5 = some m.cls := hown
  have hl : lv_has ls 1 [(0, .int i0)] := hl
  unfold f_X5_isWord at h
  refine lv_iload_n hx hb dX5_isWord_0 rfl (lv_at hl 0 rfl) ?_
  refine lv_iconst (v := 0) hx hb dX5_isWord_1 (by decide) ?_
  refine lv_bipush (v := 7) hx hb dX5_isWord_2 (by decide) ?_
  obtain ⟨r_1, hc_2, h⟩ := bd_s h
  refine callPi (As := [.int i0, .int 0, .int 7]) (rest := []) ⟨hx, hb, hml, hown, hts⟩ (c_X5_isWithin l D cI cJ i0 0 7 r_1 hc_2) (va_cwS 3 hts gX5_isWord_X5_isWithin rfl rfl rfl (by decide +kernel) ⟨Nat.le_of_ble_eq_true rfl, Nat.le_of_ble_eq_true rfl⟩) hK hP hD hS hA rfl hl.1 rfl (Nat.le_of_ble_eq_true rfl) dX5_isWord_4 ⟨Nat.zero_le _, Nat.zero_le _⟩ (fun H locs hP hD hS => ?_)
  obtain ⟨hz_3, h⟩ := bz_s h
  cases h
  exact hret _ _ _ _ hz_3 hP hD hS dX5_isWord_7
def f_X5_isSide (i0 : Int32) : Option (Int32) :=
  Option.bind (f_X5_isWithin i0 0 1) fun r_1 =>
  bz r_1 <|
  some r_1
set_option maxHeartbeats 4000000 in
set_option maxRecDepth 100000 in
theorem c_X5_isSide (l : Launch) (D : va_G) (cI cJ : ClassId) (i0 : Int32) (ret9 : Int32) (h : f_X5_isSide i0 = some ret9) : CI l D cI cJ yX5_isSide wsX5_isSide 1 22 [.int i0] [] [] ret9 := by
  refine entZ (cc := cX5_isSide) (maxL := 1) (by decide) rfl (Nat.le_of_ble_eq_true rfl) ?_
  intro p e s m args below meth c ls A Q X hret
  obtain ⟨hx, hb, hml, hts, hown, hK, hA, hP, hD, hS, hl, hnm⟩ := X
  have hown : s.vm.findClass RX5 = some m.cls := hown
  have hl : lv_has ls 1 [(0, .int i0)] := hl
  unfold f_X5_isSide at h
  refine lv_iload_n hx hb dX5_isSide_0 rfl (lv_at hl 0 rfl) ?_
  refine lv_iconst (v := 0) hx hb dX5_isSide_1 (by decide) ?_
  refine lv_iconst (v := 1) hx hb dX5_isSide_2 (by decide) ?_
  obtain ⟨r_1, hc_2, h⟩ := bd_s h
  refine callPi (As := [.int i0, .int 0, .int 1]) (rest := []) ⟨hx, hb, hml, hown, hts⟩ (c_X5_isWithin l D cI cJ i0 0 1 r_1 hc_2) (va_cwS 3 hts gX5_isSide_X5_isWithin rfl rfl rfl (by decide +kernel) ⟨Nat.le_of_ble_eq_true rfl, Nat.le_of_ble_eq_true rfl⟩) hK hP hD hS hA rfl hl.1 rfl (Nat.le_of_ble_eq_true rfl) dX5_isSide_3 ⟨Nat.zero_le _, Nat.zero_le _⟩ (fun H locs hP hD hS => ?_)
  obtain ⟨hz_3, h⟩ := bz_s h
  cases h
  exact hret _ _ _ _ hz_3 hP hD hS dX5_isSide_6
def f_X0_commonDivisor_L9 : Nat → Int32 → Int64 → Int64 → Option (Int32 × Int64 × Int64)
  | 0, _, _, _ => none
  | n + 1, y8_4, k6_5, k4_6 =>
  if 200 ≤ y8_4 then
    some (y8_4, k6_5, k4_6)
  else
    if (lg_cmp k6_5 0) = 0 then
      some (y8_4, k6_5, k4_6)
    else
      dzL k6_5 <|
      nm (α := Int64) ((k4_6 - k4_6 / k6_5 * k6_5)) fun j9_13 =>
      nm (α := Int64) (k6_5) fun j4_14 =>
      nm (α := Int64) (j9_13) fun j6_15 =>
      nm (α := Int32) (y8_4 + 1) fun x8_16 =>
      f_X0_commonDivisor_L9 n x8_16 j6_15 j4_14
def f_X0_commonDivisor (q0 : Int64) (q2 : Int64) : Option (Int64) :=
  nm (α := Int64) (q0) fun j4_1 =>
  nm (α := Int64) (q2) fun j6_2 =>
  nm (α := Int32) (0) fun x8_3 =>
  Option.bind (f_X0_commonDivisor_L9 FU x8_3 j6_2 j4_1) fun (z8_17, z6_18, z4_19) =>
  some z4_19
set_option maxHeartbeats 4000000 in
set_option maxRecDepth 100000 in
theorem c_X0_commonDivisor (l : Launch) (D : va_G) (cI cJ : ClassId) (q0 : Int64) (q2 : Int64) (ret9 : Int64) (h : f_X0_commonDivisor q0 q2 = some ret9) : CL l D cI cJ yX0_commonDivisor wsX0_commonDivisor 0 0 [.long q0, .long q2] [] [] ret9 := by
  refine entL (cc := cX0_commonDivisor) (maxL := 11) (by decide) rfl (Nat.le_of_ble_eq_true rfl) ?_
  intro p e s m args below meth c ls A Q X hret
  obtain ⟨hx, hb, hml, hts, hown, hK, hA, hP, hD, hS, hl, hnm⟩ := X
  have hown : s.vm.findClass RX0 = some m.cls := hown
  have hl : lv_has ls 11 [(0, .long q0), (2, .long q2)] := hl
  unfold f_X0_commonDivisor at h
  refine lv_lload_n hx hb dX0_commonDivisor_0 rfl (lv_at hl 0 rfl) ?_
  refine lv_topl (fun j4_1 ej4_1 => ?_)
  have h := nm_s h j4_1 ej4_1
  refine lv_lstore (lv' := [(4, .long j4_1), (0, .long q0), (2, .long q2)]) hx hb dX0_commonDivisor_1 hl (by decide) rfl (fun ls hl => ?_)
  refine lv_lload_n hx hb dX0_commonDivisor_3 rfl (lv_at hl 2 rfl) ?_
  refine lv_topl (fun j6_2 ej6_2 => ?_)
  have h := nm_s h j6_2 ej6_2
  refine lv_lstore (lv' := [(6, .long j6_2), (4, .long j4_1), (0, .long q0), (2, .long q2)]) hx hb dX0_commonDivisor_4 hl (by decide) rfl (fun ls hl => ?_)
  refine lv_iconst (v := 0) hx hb dX0_commonDivisor_6 (by decide) ?_
  refine lv_topi (fun x8_3 ex8_3 => ?_)
  have h := nm_s h x8_3 ex8_3
  refine lv_istore (lv' := [(8, .int x8_3), (6, .long j6_2), (4, .long j4_1), (0, .long q0), (2, .long q2)]) hx hb dX0_commonDivisor_7 hl (by decide) rfl (fun ls hl => ?_)
  have L9 : ∀ (n : Nat) (y8_4 : Int32) (k6_5 : Int64) (k4_6 : Int64) (z8_7 : Int32) (z6_8 : Int64) (z4_9 : Int64), f_X0_commonDivisor_L9 n y8_4 k6_5 k4_6 = some (z8_7, z6_8, z4_9) → ∀ (H : Heap) (locs : List Loc) (ls : Array Slot), va_P D vwK [] H → va_D A [] → va_S A s.heap H locs → lv_has ls 11 [(8, .int y8_4), (6, .long k6_5), (4, .long k4_6)] → (∀ (H : Heap) (locs : List Loc) (ls : Array Slot), va_P D vwK [] H → va_D A [] → va_S A s.heap H locs → lv_has ls 11 [(4, .long z4_9)] → W p l e (rmOf 0 0) s m args below meth c H locs 0 0 Q (F0 m 45 ls [])) → W p l e (rmOf 0 0) s m args below meth c H locs 0 0 Q (F0 m 9 ls []) := by
    intro n
    induction n with
    | zero => intro y8_4 k6_5 k4_6 z8_7 z6_8 z4_9 h; rw [f_X0_commonDivisor_L9.eq_1] at h; cases h
    | succ n ih =>
      intro y8_4 k6_5 k4_6 z8_7 z6_8 z4_9 h H locs ls hP hD hS hl K
      rw [f_X0_commonDivisor_L9.eq_2] at h
      refine lv_iload hx hb dX0_commonDivisor_9 (lv_at hl 0 rfl) ?_
      refine lv_sipush (v := 200) hx hb dX0_commonDivisor_11 (by decide) ?_
      refine lv_icmp_ge (tgt := 45) hx hb dX0_commonDivisor_14 (by decide) (fun c_10 => ?_) (fun c_10 => ?_)
      · have h := it_p c_10 h
        cases h
        exact K _ _ _ hP hD hS (lv_sub hl [2] rfl)
      · have h := it_n c_10 h
        refine lv_lload hx hb dX0_commonDivisor_17 (lv_at hl 1 rfl) ?_
        refine lv_lconst (v := 0) hx hb dX0_commonDivisor_19 (by decide) ?_
        refine W.lcmp hx hb dX0_commonDivisor_20 ?_
        refine lv_if_eq (tgt := 45) hx hb dX0_commonDivisor_21 (by decide) (fun c_11 => ?_) (fun c_11 => ?_)
        · have h := it_p c_11 h
          cases h
          exact K _ _ _ hP hD hS (lv_sub hl [2] rfl)
        · have h := it_n c_11 h
          refine lv_lload hx hb dX0_commonDivisor_24 (lv_at hl 2 rfl) ?_
          refine lv_lload hx hb dX0_commonDivisor_26 (lv_at hl 1 rfl) ?_
          obtain ⟨hz_12, h⟩ := dzL_s h
          refine lv_lrem hx hb dX0_commonDivisor_28 hz_12 ?_
          refine lv_topl (fun j9_13 ej9_13 => ?_)
          have h := nm_s h j9_13 ej9_13
          refine lv_lstore (lv' := [(9, .long j9_13), (8, .int y8_4), (6, .long k6_5), (4, .long k4_6)]) hx hb dX0_commonDivisor_29 hl (by decide) rfl (fun ls hl => ?_)
          refine lv_lload hx hb dX0_commonDivisor_31 (lv_at hl 2 rfl) ?_
          refine lv_topl (fun j4_14 ej4_14 => ?_)
          have h := nm_s h j4_14 ej4_14
          refine lv_lstore (lv' := [(4, .long j4_14), (9, .long j9_13), (8, .int y8_4), (6, .long k6_5)]) hx hb dX0_commonDivisor_33 hl (by decide) rfl (fun ls hl => ?_)
          refine lv_lload hx hb dX0_commonDivisor_35 (lv_at hl 1 rfl) ?_
          refine lv_topl (fun j6_15 ej6_15 => ?_)
          have h := nm_s h j6_15 ej6_15
          refine lv_lstore (lv' := [(6, .long j6_15), (4, .long j4_14), (9, .long j9_13), (8, .int y8_4)]) hx hb dX0_commonDivisor_37 hl (by decide) rfl (fun ls hl => ?_)
          obtain ⟨x8_16, ex8_16⟩ : ∃ z : Int32, z = y8_4 + 1 := ⟨_, rfl⟩
          have h := nm_s h x8_16 ex8_16
          refine lv_iinc (v := x8_16) (lv' := [(8, .int x8_16), (6, .long j6_15), (4, .long j4_14), (9, .long j9_13)]) hx hb dX0_commonDivisor_39 hl (k := 3) rfl (by rw [ex8_16]; rfl) (by decide) rfl (fun ls hl => ?_)
          refine lv_goto (tgt := 9) hx hb dX0_commonDivisor_42 (by decide) ?_
          exact ih _ _ _ _ _ _ h _ _ _ hP hD hS (lv_sub hl [0, 1, 2] rfl) K
  obtain ⟨⟨z8_17, z6_18, z4_19⟩, hl_20, h⟩ := bd_s h
  refine L9 FU x8_3 j6_2 j4_1 _ _ _ hl_20 _ _ _ hP hD hS (lv_sub hl [0, 1, 2] rfl) (fun H locs ls hP hD hS hl => ?_)
  refine lv_lload hx hb dX0_commonDivisor_45 (lv_at hl 0 rfl) ?_
  cases h
  exact hret _ _ _ _ hP hD hS dX0_commonDivisor_47
def f_X0_sideOf (q0 : Int64) (q2 : Int64) (i4 : Int32) : Option (Int64) :=
  if (lg_cmp q0 0) ≤ 0 then
    if i4 = 0 then
      some 0
    else
      some 1
  else
    if 0 < (lg_cmp q2 0) then
      Option.bind (f_X0_commonDivisor q0 q2) fun rj_4 =>
      nm (α := Int64) (rj_4) fun j5_6 =>
      if 0 < (lg_cmp j5_6 0) then
        if i4 = 0 then
          dzL j5_6 <|
          some (q0 / j5_6)
        else
          dzL j5_6 <|
          some (q2 / j5_6)
      else
        if i4 = 0 then
          some q0
        else
          some q2
    else
      if i4 = 0 then
        some 0
      else
        some 1
set_option maxHeartbeats 4000000 in
set_option maxRecDepth 100000 in
theorem c_X0_sideOf (l : Launch) (D : va_G) (cI cJ : ClassId) (q0 : Int64) (q2 : Int64) (i4 : Int32) (ret9 : Int64) (h : f_X0_sideOf q0 q2 i4 = some ret9) : CL l D cI cJ yX0_sideOf wsX0_sideOf 1 30 [.long q0, .long q2, .int i4] [] [] ret9 := by
  refine entL (cc := cX0_sideOf) (maxL := 7) (by decide) rfl (Nat.le_of_ble_eq_true rfl) ?_
  intro p e s m args below meth c ls A Q X hret
  obtain ⟨hx, hb, hml, hts, hown, hK, hA, hP, hD, hS, hl, hnm⟩ := X
  have hown : s.vm.findClass RX0 = some m.cls := hown
  have hl : lv_has ls 7 [(0, .long q0), (2, .long q2), (4, .int i4)] := hl
  unfold f_X0_sideOf at h
  refine lv_lload_n hx hb dX0_sideOf_0 rfl (lv_at hl 0 rfl) ?_
  refine lv_lconst (v := 0) hx hb dX0_sideOf_1 (by decide) ?_
  refine W.lcmp hx hb dX0_sideOf_2 ?_
  refine lv_if_le (tgt := 12) hx hb dX0_sideOf_3 (by decide) (fun c_1 => ?_) (fun c_1 => ?_)
  · have h := it_p c_1 h
    refine lv_iload hx hb dX0_sideOf_12 (lv_at hl 2 rfl) ?_
    refine lv_if_ne (tgt := 21) hx hb dX0_sideOf_14 (by decide) (fun c_2 => ?_) (fun c_2 => ?_)
    · have h := it_n c_2 h
      refine lv_lconst (v := 1) hx hb dX0_sideOf_21 (by decide) ?_
      cases h
      exact hret _ _ _ _ hP hD hS dX0_sideOf_22
    · have h := it_p c_2 h
      refine lv_lconst (v := 0) hx hb dX0_sideOf_17 (by decide) ?_
      refine lv_goto (tgt := 22) hx hb dX0_sideOf_18 (by decide) ?_
      cases h
      exact hret _ _ _ _ hP hD hS dX0_sideOf_22
  · have h := it_n c_1 h
    refine lv_lload_n hx hb dX0_sideOf_6 rfl (lv_at hl 1 rfl) ?_
    refine lv_lconst (v := 0) hx hb dX0_sideOf_7 (by decide) ?_
    refine W.lcmp hx hb dX0_sideOf_8 ?_
    refine lv_if_gt (tgt := 23) hx hb dX0_sideOf_9 (by decide) (fun c_3 => ?_) (fun c_3 => ?_)
    · have h := it_p c_3 h
      refine lv_lload_n hx hb dX0_sideOf_23 rfl (lv_at hl 0 rfl) ?_
      refine lv_lload_n hx hb dX0_sideOf_24 rfl (lv_at hl 1 rfl) ?_
      obtain ⟨rj_4, hc_5, h⟩ := bd_s h
      refine callPl (As := [.long q0, .long q2]) (rest := []) ⟨hx, hb, hml, hown, hts⟩ (c_X0_commonDivisor l D cI cJ q0 q2 rj_4 hc_5) (va_cwS 2 hts gX0_sideOf_X0_commonDivisor rfl rfl rfl (by decide +kernel) ⟨Nat.le_of_ble_eq_true rfl, Nat.le_of_ble_eq_true rfl⟩) hK hP hD hS hA rfl hl.1 rfl (Nat.le_of_ble_eq_true rfl) dX0_sideOf_25 ⟨Nat.zero_le _, Nat.zero_le _⟩ (fun H locs hP hD hS => ?_)
      refine lv_topl (fun j5_6 ej5_6 => ?_)
      have h := nm_s h j5_6 ej5_6
      refine lv_lstore (lv' := [(5, .long j5_6), (0, .long q0), (2, .long q2), (4, .int i4)]) hx hb dX0_sideOf_28 hl (by decide) rfl (fun ls hl => ?_)
      refine lv_lload hx hb dX0_sideOf_30 (lv_at hl 0 rfl) ?_
      refine lv_lconst (v := 0) hx hb dX0_sideOf_32 (by decide) ?_
      refine W.lcmp hx hb dX0_sideOf_33 ?_
      refine lv_if_gt (tgt := 48) hx hb dX0_sideOf_34 (by decide) (fun c_7 => ?_) (fun c_7 => ?_)
      · have h := it_p c_7 h
        refine lv_iload hx hb dX0_sideOf_48 (lv_at hl 3 rfl) ?_
        refine lv_if_ne (tgt := 57) hx hb dX0_sideOf_50 (by decide) (fun c_8 => ?_) (fun c_8 => ?_)
        · have h := it_n c_8 h
          refine lv_lload_n hx hb dX0_sideOf_57 rfl (lv_at hl 2 rfl) ?_
          refine lv_lload hx hb dX0_sideOf_58 (lv_at hl 0 rfl) ?_
          obtain ⟨hz_9, h⟩ := dzL_s h
          refine lv_ldiv hx hb dX0_sideOf_60 hz_9 ?_
          cases h
          exact hret _ _ _ _ hP hD hS dX0_sideOf_61
        · have h := it_p c_8 h
          refine lv_lload_n hx hb dX0_sideOf_53 rfl (lv_at hl 1 rfl) ?_
          refine lv_goto (tgt := 58) hx hb dX0_sideOf_54 (by decide) ?_
          refine lv_lload hx hb dX0_sideOf_58 (lv_at hl 0 rfl) ?_
          obtain ⟨hz_10, h⟩ := dzL_s h
          refine lv_ldiv hx hb dX0_sideOf_60 hz_10 ?_
          cases h
          exact hret _ _ _ _ hP hD hS dX0_sideOf_61
      · have h := it_n c_7 h
        refine lv_iload hx hb dX0_sideOf_37 (lv_at hl 3 rfl) ?_
        refine lv_if_ne (tgt := 46) hx hb dX0_sideOf_39 (by decide) (fun c_11 => ?_) (fun c_11 => ?_)
        · have h := it_n c_11 h
          refine lv_lload_n hx hb dX0_sideOf_46 rfl (lv_at hl 2 rfl) ?_
          cases h
          exact hret _ _ _ _ hP hD hS dX0_sideOf_47
        · have h := it_p c_11 h
          refine lv_lload_n hx hb dX0_sideOf_42 rfl (lv_at hl 1 rfl) ?_
          refine lv_goto (tgt := 47) hx hb dX0_sideOf_43 (by decide) ?_
          cases h
          exact hret _ _ _ _ hP hD hS dX0_sideOf_47
    · have h := it_n c_3 h
      refine lv_iload hx hb dX0_sideOf_12 (lv_at hl 2 rfl) ?_
      refine lv_if_ne (tgt := 21) hx hb dX0_sideOf_14 (by decide) (fun c_12 => ?_) (fun c_12 => ?_)
      · have h := it_n c_12 h
        refine lv_lconst (v := 1) hx hb dX0_sideOf_21 (by decide) ?_
        cases h
        exact hret _ _ _ _ hP hD hS dX0_sideOf_22
      · have h := it_p c_12 h
        refine lv_lconst (v := 0) hx hb dX0_sideOf_17 (by decide) ?_
        refine lv_goto (tgt := 22) hx hb dX0_sideOf_18 (by decide) ?_
        cases h
        exact hret _ _ _ _ hP hD hS dX0_sideOf_22
def f_X0_isAbove_L17 : Nat → Int32 → Int64 → Int64 → Int64 → Int64 → Option ((Int32) ⊕ (Int32 × Int64 × Int64 × Int64 × Int64))
  | 0, _, _, _, _, _ => none
  | n + 1, y16_6, k14_7, k12_8, k10_9, k8_10 =>
  if 200 ≤ y16_6 then
    some (.inr (y16_6, k14_7, k12_8, k10_9, k8_10))
  else
    if (lg_cmp k10_9 0) ≤ 0 then
      some (.inr (y16_6, k14_7, k12_8, k10_9, k8_10))
    else
      if (lg_cmp k14_7 0) ≤ 0 then
        some (.inr (y16_6, k14_7, k12_8, k10_9, k8_10))
      else
        dzL k10_9 <|
        nm (α := Int64) ((k8_10 / k10_9)) fun j17_20 =>
        dzL k14_7 <|
        nm (α := Int64) ((k12_8 / k14_7)) fun j19_22 =>
        if (lg_cmp j17_20 j19_22) = 0 then
          dzL k10_9 <|
          nm (α := Int64) ((k8_10 - k8_10 / k10_9 * k10_9)) fun j21_25 =>
          dzL k14_7 <|
          nm (α := Int64) ((k12_8 - k12_8 / k14_7 * k14_7)) fun j23_27 =>
          if (lg_cmp j21_25 0) = 0 then
            if (lg_cmp j21_25 j23_27) ≤ 0 then
              some (.inl 0)
            else
              some (.inl 1)
          else
            if (lg_cmp j23_27 0) = 0 then
              if (lg_cmp j21_25 j23_27) ≤ 0 then
                some (.inl 0)
              else
                some (.inl 1)
            else
              nm (α := Int64) (k14_7) fun j8_31 =>
              nm (α := Int64) (k10_9) fun j12_32 =>
              nm (α := Int64) (j23_27) fun j10_33 =>
              nm (α := Int64) (j21_25) fun j14_34 =>
              nm (α := Int32) (y16_6 + 1) fun x16_35 =>
              f_X0_isAbove_L17 n x16_35 j14_34 j12_32 j10_33 j8_31
        else
          if (lg_cmp j17_20 j19_22) ≤ 0 then
            some (.inl 0)
          else
            some (.inl 1)
def f_X0_isAbove (q0 : Int64) (q2 : Int64) (q4 : Int64) (q6 : Int64) : Option (Int32) :=
  nm (α := Int64) (q0) fun j8_1 =>
  nm (α := Int64) (q2) fun j10_2 =>
  nm (α := Int64) (q4) fun j12_3 =>
  nm (α := Int64) (q6) fun j14_4 =>
  nm (α := Int32) (0) fun x16_5 =>
  Option.bind (f_X0_isAbove_L17 FU x16_5 j14_4 j12_3 j10_2 j8_1) fun r9 => match r9 with
  | .inl r9 => some r9
  | .inr (z16_38, z14_39, z12_40, z10_41, z8_42) =>
    some 0
set_option maxHeartbeats 4000000 in
set_option maxRecDepth 100000 in
theorem c_X0_isAbove (l : Launch) (D : va_G) (cI cJ : ClassId) (q0 : Int64) (q2 : Int64) (q4 : Int64) (q6 : Int64) (ret9 : Int32) (h : f_X0_isAbove q0 q2 q4 q6 = some ret9) : CI l D cI cJ yX0_isAbove wsX0_isAbove 0 0 [.long q0, .long q2, .long q4, .long q6] [] [] ret9 := by
  refine entZ (cc := cX0_isAbove) (maxL := 25) (by decide) rfl (Nat.le_of_ble_eq_true rfl) ?_
  intro p e s m args below meth c ls A Q X hret
  obtain ⟨hx, hb, hml, hts, hown, hK, hA, hP, hD, hS, hl, hnm⟩ := X
  have hown : s.vm.findClass RX0 = some m.cls := hown
  have hl : lv_has ls 25 [(0, .long q0), (2, .long q2), (4, .long q4), (6, .long q6)] := hl
  unfold f_X0_isAbove at h
  refine lv_lload_n hx hb dX0_isAbove_0 rfl (lv_at hl 0 rfl) ?_
  refine lv_topl (fun j8_1 ej8_1 => ?_)
  have h := nm_s h j8_1 ej8_1
  refine lv_lstore (lv' := [(8, .long j8_1), (0, .long q0), (2, .long q2), (4, .long q4), (6, .long q6)]) hx hb dX0_isAbove_1 hl (by decide) rfl (fun ls hl => ?_)
  refine lv_lload_n hx hb dX0_isAbove_3 rfl (lv_at hl 2 rfl) ?_
  refine lv_topl (fun j10_2 ej10_2 => ?_)
  have h := nm_s h j10_2 ej10_2
  refine lv_lstore (lv' := [(10, .long j10_2), (8, .long j8_1), (0, .long q0), (2, .long q2), (4, .long q4), (6, .long q6)]) hx hb dX0_isAbove_4 hl (by decide) rfl (fun ls hl => ?_)
  refine lv_lload hx hb dX0_isAbove_6 (lv_at hl 4 rfl) ?_
  refine lv_topl (fun j12_3 ej12_3 => ?_)
  have h := nm_s h j12_3 ej12_3
  refine lv_lstore (lv' := [(12, .long j12_3), (10, .long j10_2), (8, .long j8_1), (0, .long q0), (2, .long q2), (4, .long q4), (6, .long q6)]) hx hb dX0_isAbove_8 hl (by decide) rfl (fun ls hl => ?_)
  refine lv_lload hx hb dX0_isAbove_10 (lv_at hl 6 rfl) ?_
  refine lv_topl (fun j14_4 ej14_4 => ?_)
  have h := nm_s h j14_4 ej14_4
  refine lv_lstore (lv' := [(14, .long j14_4), (12, .long j12_3), (10, .long j10_2), (8, .long j8_1), (0, .long q0), (2, .long q2), (4, .long q4), (6, .long q6)]) hx hb dX0_isAbove_12 hl (by decide) rfl (fun ls hl => ?_)
  refine lv_iconst (v := 0) hx hb dX0_isAbove_14 (by decide) ?_
  refine lv_topi (fun x16_5 ex16_5 => ?_)
  have h := nm_s h x16_5 ex16_5
  refine lv_istore (lv' := [(16, .int x16_5), (14, .long j14_4), (12, .long j12_3), (10, .long j10_2), (8, .long j8_1), (0, .long q0), (2, .long q2), (4, .long q4), (6, .long q6)]) hx hb dX0_isAbove_15 hl (by decide) rfl (fun ls hl => ?_)
  have L17 : ∀ (n : Nat) (y16_6 : Int32) (k14_7 : Int64) (k12_8 : Int64) (k10_9 : Int64) (k8_10 : Int64) (res : (Int32) ⊕ (Int32 × Int64 × Int64 × Int64 × Int64)), f_X0_isAbove_L17 n y16_6 k14_7 k12_8 k10_9 k8_10 = some res → ∀ (H : Heap) (locs : List Loc) (ls : Array Slot), va_P D vwK [] H → va_D A [] → va_S A s.heap H locs → lv_has ls 25 [(16, .int y16_6), (14, .long k14_7), (12, .long k12_8), (10, .long k10_9), (8, .long k8_10)] → (∀ rt, res = .inl rt → rt = ret9) → (∀ (z16_11 : Int32) (z14_12 : Int64) (z12_13 : Int64) (z10_14 : Int64) (z8_15 : Int64), res = .inr (z16_11, z14_12, z12_13, z10_14, z8_15) → ∀ (H : Heap) (locs : List Loc) (ls : Array Slot), va_P D vwK [] H → va_D A [] → va_S A s.heap H locs → lv_has ls 25 [] → W p l e (rmOf 0 0) s m args below meth c H locs 0 0 Q (F0 m 139 ls [])) → W p l e (rmOf 0 0) s m args below meth c H locs 0 0 Q (F0 m 17 ls []) := by
    intro n
    induction n with
    | zero => intro y16_6 k14_7 k12_8 k10_9 k8_10 res h; rw [f_X0_isAbove_L17.eq_1] at h; cases h
    | succ n ih =>
      intro y16_6 k14_7 k12_8 k10_9 k8_10 res h H locs ls hP hD hS hl KR K
      rw [f_X0_isAbove_L17.eq_2] at h
      refine lv_iload hx hb dX0_isAbove_17 (lv_at hl 0 rfl) ?_
      refine lv_sipush (v := 200) hx hb dX0_isAbove_19 (by decide) ?_
      refine lv_icmp_ge (tgt := 139) hx hb dX0_isAbove_22 (by decide) (fun c_16 => ?_) (fun c_16 => ?_)
      · have h := it_p c_16 h
        cases h
        exact K _ _ _ _ _ rfl _ _ _ hP hD hS (lv_sub hl [] rfl)
      · have h := it_n c_16 h
        refine lv_lload hx hb dX0_isAbove_25 (lv_at hl 3 rfl) ?_
        refine lv_lconst (v := 0) hx hb dX0_isAbove_27 (by decide) ?_
        refine W.lcmp hx hb dX0_isAbove_28 ?_
        refine lv_if_le (tgt := 139) hx hb dX0_isAbove_29 (by decide) (fun c_17 => ?_) (fun c_17 => ?_)
        · have h := it_p c_17 h
          cases h
          exact K _ _ _ _ _ rfl _ _ _ hP hD hS (lv_sub hl [] rfl)
        · have h := it_n c_17 h
          refine lv_lload hx hb dX0_isAbove_32 (lv_at hl 1 rfl) ?_
          refine lv_lconst (v := 0) hx hb dX0_isAbove_34 (by decide) ?_
          refine W.lcmp hx hb dX0_isAbove_35 ?_
          refine lv_if_le (tgt := 139) hx hb dX0_isAbove_36 (by decide) (fun c_18 => ?_) (fun c_18 => ?_)
          · have h := it_p c_18 h
            cases h
            exact K _ _ _ _ _ rfl _ _ _ hP hD hS (lv_sub hl [] rfl)
          · have h := it_n c_18 h
            refine lv_lload hx hb dX0_isAbove_39 (lv_at hl 4 rfl) ?_
            refine lv_lload hx hb dX0_isAbove_41 (lv_at hl 3 rfl) ?_
            obtain ⟨hz_19, h⟩ := dzL_s h
            refine lv_ldiv hx hb dX0_isAbove_43 hz_19 ?_
            refine lv_topl (fun j17_20 ej17_20 => ?_)
            have h := nm_s h j17_20 ej17_20
            refine lv_lstore (lv' := [(17, .long j17_20), (16, .int y16_6), (14, .long k14_7), (12, .long k12_8), (10, .long k10_9), (8, .long k8_10)]) hx hb dX0_isAbove_44 hl (by decide) rfl (fun ls hl => ?_)
            refine lv_lload hx hb dX0_isAbove_46 (lv_at hl 3 rfl) ?_
            refine lv_lload hx hb dX0_isAbove_48 (lv_at hl 2 rfl) ?_
            obtain ⟨hz_21, h⟩ := dzL_s h
            refine lv_ldiv hx hb dX0_isAbove_50 hz_21 ?_
            refine lv_topl (fun j19_22 ej19_22 => ?_)
            have h := nm_s h j19_22 ej19_22
            refine lv_lstore (lv' := [(19, .long j19_22), (17, .long j17_20), (16, .int y16_6), (14, .long k14_7), (12, .long k12_8), (10, .long k10_9), (8, .long k8_10)]) hx hb dX0_isAbove_51 hl (by decide) rfl (fun ls hl => ?_)
            refine lv_lload hx hb dX0_isAbove_53 (lv_at hl 1 rfl) ?_
            refine lv_lload hx hb dX0_isAbove_55 (lv_at hl 0 rfl) ?_
            refine W.lcmp hx hb dX0_isAbove_57 ?_
            refine lv_if_eq (tgt := 75) hx hb dX0_isAbove_58 (by decide) (fun c_23 => ?_) (fun c_23 => ?_)
            · have h := it_p c_23 h
              refine lv_lload hx hb dX0_isAbove_75 (lv_at hl 6 rfl) ?_
              refine lv_lload hx hb dX0_isAbove_77 (lv_at hl 5 rfl) ?_
              obtain ⟨hz_24, h⟩ := dzL_s h
              refine lv_lrem hx hb dX0_isAbove_79 hz_24 ?_
              refine lv_topl (fun j21_25 ej21_25 => ?_)
              have h := nm_s h j21_25 ej21_25
              refine lv_lstore (lv' := [(21, .long j21_25), (19, .long j19_22), (17, .long j17_20), (16, .int y16_6), (14, .long k14_7), (12, .long k12_8), (10, .long k10_9), (8, .long k8_10)]) hx hb dX0_isAbove_80 hl (by decide) rfl (fun ls hl => ?_)
              refine lv_lload hx hb dX0_isAbove_82 (lv_at hl 5 rfl) ?_
              refine lv_lload hx hb dX0_isAbove_84 (lv_at hl 4 rfl) ?_
              obtain ⟨hz_26, h⟩ := dzL_s h
              refine lv_lrem hx hb dX0_isAbove_86 hz_26 ?_
              refine lv_topl (fun j23_27 ej23_27 => ?_)
              have h := nm_s h j23_27 ej23_27
              refine lv_lstore (lv' := [(23, .long j23_27), (21, .long j21_25), (19, .long j19_22), (17, .long j17_20), (16, .int y16_6), (14, .long k14_7), (12, .long k12_8), (10, .long k10_9), (8, .long k8_10)]) hx hb dX0_isAbove_87 hl (by decide) rfl (fun ls hl => ?_)
              refine lv_lload hx hb dX0_isAbove_89 (lv_at hl 1 rfl) ?_
              refine lv_lconst (v := 0) hx hb dX0_isAbove_91 (by decide) ?_
              refine W.lcmp hx hb dX0_isAbove_92 ?_
              refine lv_if_eq (tgt := 103) hx hb dX0_isAbove_93 (by decide) (fun c_28 => ?_) (fun c_28 => ?_)
              · have h := it_p c_28 h
                refine lv_lload hx hb dX0_isAbove_103 (lv_at hl 1 rfl) ?_
                refine lv_lload hx hb dX0_isAbove_105 (lv_at hl 0 rfl) ?_
                refine W.lcmp hx hb dX0_isAbove_107 ?_
                refine lv_if_le (tgt := 115) hx hb dX0_isAbove_108 (by decide) (fun c_29 => ?_) (fun c_29 => ?_)
                · have h := it_p c_29 h
                  refine lv_iconst (v := 0) hx hb dX0_isAbove_115 (by decide) ?_
                  cases h
                  have e9 := KR _ rfl
                  cases e9
                  exact hret _ _ _ _ (Or.inl rfl) hP hD hS dX0_isAbove_116
                · have h := it_n c_29 h
                  refine lv_iconst (v := 1) hx hb dX0_isAbove_111 (by decide) ?_
                  refine lv_goto (tgt := 116) hx hb dX0_isAbove_112 (by decide) ?_
                  cases h
                  have e9 := KR _ rfl
                  cases e9
                  exact hret _ _ _ _ (Or.inr rfl) hP hD hS dX0_isAbove_116
              · have h := it_n c_28 h
                refine lv_lload hx hb dX0_isAbove_96 (lv_at hl 0 rfl) ?_
                refine lv_lconst (v := 0) hx hb dX0_isAbove_98 (by decide) ?_
                refine W.lcmp hx hb dX0_isAbove_99 ?_
                refine lv_if_ne (tgt := 117) hx hb dX0_isAbove_100 (by decide) (fun c_30 => ?_) (fun c_30 => ?_)
                · have h := it_n c_30 h
                  refine lv_lload hx hb dX0_isAbove_117 (lv_at hl 5 rfl) ?_
                  refine lv_topl (fun j8_31 ej8_31 => ?_)
                  have h := nm_s h j8_31 ej8_31
                  refine lv_lstore (lv' := [(8, .long j8_31), (23, .long j23_27), (21, .long j21_25), (19, .long j19_22), (17, .long j17_20), (16, .int y16_6), (14, .long k14_7), (12, .long k12_8), (10, .long k10_9)]) hx hb dX0_isAbove_119 hl (by decide) rfl (fun ls hl => ?_)
                  refine lv_lload hx hb dX0_isAbove_121 (lv_at hl 8 rfl) ?_
                  refine lv_topl (fun j12_32 ej12_32 => ?_)
                  have h := nm_s h j12_32 ej12_32
                  refine lv_lstore (lv' := [(12, .long j12_32), (8, .long j8_31), (23, .long j23_27), (21, .long j21_25), (19, .long j19_22), (17, .long j17_20), (16, .int y16_6), (14, .long k14_7), (10, .long k10_9)]) hx hb dX0_isAbove_123 hl (by decide) rfl (fun ls hl => ?_)
                  refine lv_lload hx hb dX0_isAbove_125 (lv_at hl 2 rfl) ?_
                  refine lv_topl (fun j10_33 ej10_33 => ?_)
                  have h := nm_s h j10_33 ej10_33
                  refine lv_lstore (lv' := [(10, .long j10_33), (12, .long j12_32), (8, .long j8_31), (23, .long j23_27), (21, .long j21_25), (19, .long j19_22), (17, .long j17_20), (16, .int y16_6), (14, .long k14_7)]) hx hb dX0_isAbove_127 hl (by decide) rfl (fun ls hl => ?_)
                  refine lv_lload hx hb dX0_isAbove_129 (lv_at hl 4 rfl) ?_
                  refine lv_topl (fun j14_34 ej14_34 => ?_)
                  have h := nm_s h j14_34 ej14_34
                  refine lv_lstore (lv' := [(14, .long j14_34), (10, .long j10_33), (12, .long j12_32), (8, .long j8_31), (23, .long j23_27), (21, .long j21_25), (19, .long j19_22), (17, .long j17_20), (16, .int y16_6)]) hx hb dX0_isAbove_131 hl (by decide) rfl (fun ls hl => ?_)
                  obtain ⟨x16_35, ex16_35⟩ : ∃ z : Int32, z = y16_6 + 1 := ⟨_, rfl⟩
                  have h := nm_s h x16_35 ex16_35
                  refine lv_iinc (v := x16_35) (lv' := [(16, .int x16_35), (14, .long j14_34), (10, .long j10_33), (12, .long j12_32), (8, .long j8_31), (23, .long j23_27), (21, .long j21_25), (19, .long j19_22), (17, .long j17_20)]) hx hb dX0_isAbove_133 hl (k := 8) rfl (by rw [ex16_35]; rfl) (by decide) rfl (fun ls hl => ?_)
                  refine lv_goto (tgt := 17) hx hb dX0_isAbove_136 (by decide) ?_
                  exact ih _ _ _ _ _ _ h _ _ _ hP hD hS (lv_sub hl [0, 1, 3, 2, 4] rfl) KR K
                · have h := it_p c_30 h
                  refine lv_lload hx hb dX0_isAbove_103 (lv_at hl 1 rfl) ?_
                  refine lv_lload hx hb dX0_isAbove_105 (lv_at hl 0 rfl) ?_
                  refine W.lcmp hx hb dX0_isAbove_107 ?_
                  refine lv_if_le (tgt := 115) hx hb dX0_isAbove_108 (by decide) (fun c_36 => ?_) (fun c_36 => ?_)
                  · have h := it_p c_36 h
                    refine lv_iconst (v := 0) hx hb dX0_isAbove_115 (by decide) ?_
                    cases h
                    have e9 := KR _ rfl
                    cases e9
                    exact hret _ _ _ _ (Or.inl rfl) hP hD hS dX0_isAbove_116
                  · have h := it_n c_36 h
                    refine lv_iconst (v := 1) hx hb dX0_isAbove_111 (by decide) ?_
                    refine lv_goto (tgt := 116) hx hb dX0_isAbove_112 (by decide) ?_
                    cases h
                    have e9 := KR _ rfl
                    cases e9
                    exact hret _ _ _ _ (Or.inr rfl) hP hD hS dX0_isAbove_116
            · have h := it_n c_23 h
              refine lv_lload hx hb dX0_isAbove_61 (lv_at hl 1 rfl) ?_
              refine lv_lload hx hb dX0_isAbove_63 (lv_at hl 0 rfl) ?_
              refine W.lcmp hx hb dX0_isAbove_65 ?_
              refine lv_if_le (tgt := 73) hx hb dX0_isAbove_66 (by decide) (fun c_37 => ?_) (fun c_37 => ?_)
              · have h := it_p c_37 h
                refine lv_iconst (v := 0) hx hb dX0_isAbove_73 (by decide) ?_
                cases h
                have e9 := KR _ rfl
                cases e9
                exact hret _ _ _ _ (Or.inl rfl) hP hD hS dX0_isAbove_74
              · have h := it_n c_37 h
                refine lv_iconst (v := 1) hx hb dX0_isAbove_69 (by decide) ?_
                refine lv_goto (tgt := 74) hx hb dX0_isAbove_70 (by decide) ?_
                cases h
                have e9 := KR _ rfl
                cases e9
                exact hret _ _ _ _ (Or.inr rfl) hP hD hS dX0_isAbove_74
  obtain ⟨res_44, hl_43, h⟩ := bd_s h
  refine L17 FU x16_5 j14_4 j12_3 j10_2 j8_1 _ hl_43 _ _ _ hP hD hS (lv_sub hl [0, 1, 2, 3, 4] rfl) (fun rt e9 => by subst e9; exact Option.some.inj h) (fun z16_38 z14_39 z12_40 z10_41 z8_42 e9 H locs ls hP hD hS hl => ?_)
  subst e9
  refine lv_iconst (v := 0) hx hb dX0_isAbove_139 (by decide) ?_
  cases h
  exact hret _ _ _ _ (Or.inl rfl) hP hD hS dX0_isAbove_140
def f_X5_isTable (i0 : Int32) (i1 : Int32) : Option (Int32) :=
  if i1 = (-1) then
    if i0 = (-1) then
      some 1
    else
      some 0
  else
    Option.bind (f_X5_isWord i1) fun r_2 =>
    if r_2 = 0 then
      some 0
    else
      if i0 = (-1) then
        some 1
      else
        Option.bind (f_X5_isWord i0) fun r_6 =>
        if r_6 = 0 then
          some 0
        else
          some 1
set_option maxHeartbeats 4000000 in
set_option maxRecDepth 100000 in
theorem c_X5_isTable (l : Launch) (D : va_G) (cI cJ : ClassId) (i0 : Int32) (i1 : Int32) (ret9 : Int32) (h : f_X5_isTable i0 i1 = some ret9) : CI l D cI cJ yX5_isTable wsX5_isTable 2 42 [.int i0, .int i1] [] [] ret9 := by
  refine entZ (cc := cX5_isTable) (maxL := 2) (by decide) rfl (Nat.le_of_ble_eq_true rfl) ?_
  intro p e s m args below meth c ls A Q X hret
  obtain ⟨hx, hb, hml, hts, hown, hK, hA, hP, hD, hS, hl, hnm⟩ := X
  have hown : s.vm.findClass RX5 = some m.cls := hown
  have hl : lv_has ls 2 [(0, .int i0), (1, .int i1)] := hl
  unfold f_X5_isTable at h
  refine lv_iload_n hx hb dX5_isTable_0 rfl (lv_at hl 1 rfl) ?_
  refine lv_iconst (v := (-1)) hx hb dX5_isTable_1 (by decide) ?_
  refine lv_icmp_ne (tgt := 16) hx hb dX5_isTable_2 (by decide) (fun c_1 => ?_) (fun c_1 => ?_)
  · have h := it_n c_1 h
    refine lv_iload_n hx hb dX5_isTable_16 rfl (lv_at hl 1 rfl) ?_
    obtain ⟨r_2, hc_3, h⟩ := bd_s h
    refine callPi (As := [.int i1]) (rest := []) ⟨hx, hb, hml, hown, hts⟩ (c_X5_isWord l D cI cJ i1 r_2 hc_3) (va_cwS 1 hts gX5_isTable_X5_isWord rfl rfl rfl (by decide +kernel) ⟨Nat.le_of_ble_eq_true rfl, Nat.le_of_ble_eq_true rfl⟩) hK hP hD hS hA rfl hl.1 rfl (Nat.le_of_ble_eq_true rfl) dX5_isTable_17 ⟨Nat.zero_le _, Nat.zero_le _⟩ (fun H locs hP hD hS => ?_)
    refine lv_if_eq (tgt := 39) hx hb dX5_isTable_20 (by decide) (fun c_4 => ?_) (fun c_4 => ?_)
    · have h := it_p c_4 h
      refine lv_iconst (v := 0) hx hb dX5_isTable_39 (by decide) ?_
      cases h
      exact hret _ _ _ _ (Or.inl rfl) hP hD hS dX5_isTable_40
    · have h := it_n c_4 h
      refine lv_iload_n hx hb dX5_isTable_23 rfl (lv_at hl 0 rfl) ?_
      refine lv_iconst (v := (-1)) hx hb dX5_isTable_24 (by decide) ?_
      refine lv_icmp_eq (tgt := 35) hx hb dX5_isTable_25 (by decide) (fun c_5 => ?_) (fun c_5 => ?_)
      · have h := it_p c_5 h
        refine lv_iconst (v := 1) hx hb dX5_isTable_35 (by decide) ?_
        refine lv_goto (tgt := 40) hx hb dX5_isTable_36 (by decide) ?_
        cases h
        exact hret _ _ _ _ (Or.inr rfl) hP hD hS dX5_isTable_40
      · have h := it_n c_5 h
        refine lv_iload_n hx hb dX5_isTable_28 rfl (lv_at hl 0 rfl) ?_
        obtain ⟨r_6, hc_7, h⟩ := bd_s h
        refine callPi (As := [.int i0]) (rest := []) ⟨hx, hb, hml, hown, hts⟩ (c_X5_isWord l D cI cJ i0 r_6 hc_7) (va_cwS 1 hts gX5_isTable_X5_isWord rfl rfl rfl (by decide +kernel) ⟨Nat.le_of_ble_eq_true rfl, Nat.le_of_ble_eq_true rfl⟩) hK hP hD hS hA rfl hl.1 rfl (Nat.le_of_ble_eq_true rfl) dX5_isTable_29 ⟨Nat.zero_le _, Nat.zero_le _⟩ (fun H locs hP hD hS => ?_)
        refine lv_if_eq (tgt := 39) hx hb dX5_isTable_32 (by decide) (fun c_8 => ?_) (fun c_8 => ?_)
        · have h := it_p c_8 h
          refine lv_iconst (v := 0) hx hb dX5_isTable_39 (by decide) ?_
          cases h
          exact hret _ _ _ _ (Or.inl rfl) hP hD hS dX5_isTable_40
        · have h := it_n c_8 h
          refine lv_iconst (v := 1) hx hb dX5_isTable_35 (by decide) ?_
          refine lv_goto (tgt := 40) hx hb dX5_isTable_36 (by decide) ?_
          cases h
          exact hret _ _ _ _ (Or.inr rfl) hP hD hS dX5_isTable_40
  · have h := it_p c_1 h
    refine lv_iload_n hx hb dX5_isTable_5 rfl (lv_at hl 0 rfl) ?_
    refine lv_iconst (v := (-1)) hx hb dX5_isTable_6 (by decide) ?_
    refine lv_icmp_ne (tgt := 14) hx hb dX5_isTable_7 (by decide) (fun c_9 => ?_) (fun c_9 => ?_)
    · have h := it_n c_9 h
      refine lv_iconst (v := 0) hx hb dX5_isTable_14 (by decide) ?_
      cases h
      exact hret _ _ _ _ (Or.inl rfl) hP hD hS dX5_isTable_15
    · have h := it_p c_9 h
      refine lv_iconst (v := 1) hx hb dX5_isTable_10 (by decide) ?_
      refine lv_goto (tgt := 15) hx hb dX5_isTable_11 (by decide) ?_
      cases h
      exact hret _ _ _ _ (Or.inr rfl) hP hD hS dX5_isTable_15
