def f_X2_isFull (rowCount2 : Int32) : Option (Int32) :=
  if rowCount2 < 40 then
    some 0
  else
    some 1
set_option maxHeartbeats 4000000 in
set_option maxRecDepth 100000 in
theorem c_X2_isFull (l : Launch) (D : va_G) (cI cJ : ClassId) (h2 labels2a guesses2a lengths2a words2a times2a totals2a sizes2a : Nat) (labels2 : Nat → Int32) (guesses2 : Nat → Int32) (lengths2 : Nat → Int32) (words2 : Nat → Int32) (times2 : Nat → Int32) (totals2 : Nat → Int32) (sizes2 : Nat → Int32) (rowCount2 : Int32) (addedUp2 : Int32) (addedDown2 : Int32) (ret9 : Int32) (h : f_X2_isFull rowCount2 = some ret9) : CI l D cI cJ yX2_isFull wsX2_isFull 0 0 [.ref h2] (w2 cI cJ h2 labels2a guesses2a lengths2a words2a times2a totals2a sizes2a labels2 guesses2 lengths2 words2 times2 totals2 sizes2 rowCount2 addedUp2 addedDown2) (w2 cI cJ h2 labels2a guesses2a lengths2a words2a times2a totals2a sizes2a labels2 guesses2 lengths2 words2 times2 totals2 sizes2 rowCount2 addedUp2 addedDown2) ret9 := by
  refine entZ (cc := cX2_isFull) (maxL := 1) (by decide) rfl (Nat.le_of_ble_eq_true rfl) ?_
  intro p e s m args below meth c ls A Q X hret
  obtain ⟨hx, hb, hml, hts, hown, hK, hA, hP, hD, hS, hl, hnm⟩ := X
  have hown : s.vm.findClass RX2 = some m.cls := hown
  have hl : lv_has ls 1 [(0, .ref h2)] := hl
  have hw1 : (Cond.fieldLink RX2 33 "CountLearners$LabelledRows" "rowCount" "I").before args s = true := hts _ (by decide +kernel)
  have hinX2 : ∀ w ∈ wsX20, w ∈ wsX2_isFull := by decide +kernel
  unfold f_X2_isFull at h
  refine lv_aload_n hx hb dX2_isFull_0 rfl (lv_at hl 0 rfl) ?_
  refine va_get (D := D) (ci := 1) (v := .int rowCount2) (C := RX2) (T := TX2) (N := 10) hx hb hts hinX2 hown hK.1 hP 0 rfl rfl 7 (by decide) hw1 (fun _ h9 => h9) rfl dX2_isFull_1 ?_
  refine lv_bipush (v := 40) hx hb dX2_isFull_4 (by decide) ?_
  refine lv_icmp_lt (tgt := 13) hx hb dX2_isFull_6 (by decide) (fun c_1 => ?_) (fun c_1 => ?_)
  · have h := it_p c_1 h
    refine lv_iconst (v := 0) hx hb dX2_isFull_13 (by decide) ?_
    cases h
    exact hret _ _ _ _ (Or.inl rfl) hP hD hS dX2_isFull_14
  · have h := it_n c_1 h
    refine lv_iconst (v := 1) hx hb dX2_isFull_9 (by decide) ?_
    refine lv_goto (tgt := 14) hx hb dX2_isFull_10 (by decide) ?_
    cases h
    exact hret _ _ _ _ (Or.inr rfl) hP hD hS dX2_isFull_14
def f_X2_tallyRow_L27 (i1 : Int32) (i2 : Int32) (lengths2 : Nat → Int32) (words2 : Nat → Int32) : Nat → Int32 → (Nat → Int32) → Option (Int32 × (Nat → Int32))
  | 0, _, _ => none
  | n + 1, y3_12, times2_13 =>
  gA 40 lengths2 i1 fun v_17 =>
  if v_17 ≤ y3_12 then
    some (y3_12, times2_13)
  else
    gA 240 words2 ((i1 * 6) + y3_12) fun v_20 =>
    gA 32 times2_13 ((i2 * 8) + v_20) fun v_22 =>
    sI 32 times2_13 ((i2 * 8) + v_20) (v_22 + 1) fun times2_24 =>
    nm (α := Int32) (y3_12 + 1) fun x3_25 =>
    f_X2_tallyRow_L27 i1 i2 lengths2 words2 n x3_25 times2_24
def f_X2_tallyRow (i1 : Int32) (i2 : Int32) (lengths2 : Nat → Int32) (words2 : Nat → Int32) (times2 : Nat → Int32) (totals2 : Nat → Int32) (sizes2 : Nat → Int32) : Option ((Nat → Int32) × (Nat → Int32) × (Nat → Int32)) :=
  gA 4 sizes2 i2 fun v_2 =>
  sI 4 sizes2 i2 (v_2 + 1) fun sizes2_4 =>
  gA 4 totals2 i2 fun v_6 =>
  gA 40 lengths2 i1 fun v_8 =>
  sI 4 totals2 i2 (v_6 + v_8) fun totals2_10 =>
  nm (α := Int32) (0) fun x3_11 =>
  Option.bind (f_X2_tallyRow_L27 i1 i2 lengths2 words2 FU x3_11 times2) fun (z3_26, times2_27) =>
  some (times2_27, totals2_10, sizes2_4)
set_option maxHeartbeats 4000000 in
set_option maxRecDepth 100000 in
theorem c_X2_tallyRow (l : Launch) (D : va_G) (cI cJ : ClassId) (h2 labels2a guesses2a lengths2a words2a times2a totals2a sizes2a : Nat) (labels2 : Nat → Int32) (guesses2 : Nat → Int32) (lengths2 : Nat → Int32) (words2 : Nat → Int32) (times2 : Nat → Int32) (totals2 : Nat → Int32) (sizes2 : Nat → Int32) (rowCount2 : Int32) (addedUp2 : Int32) (addedDown2 : Int32) (i1 : Int32) (i2 : Int32) (times2z : Nat → Int32) (totals2z : Nat → Int32) (sizes2z : Nat → Int32) (h : f_X2_tallyRow i1 i2 lengths2 words2 times2 totals2 sizes2 = some (times2z, totals2z, sizes2z)) : CV l D cI cJ yX2_tallyRow wsX2_tallyRow 0 0 [.ref h2, .int i1, .int i2] (w2 cI cJ h2 labels2a guesses2a lengths2a words2a times2a totals2a sizes2a labels2 guesses2 lengths2 words2 times2 totals2 sizes2 rowCount2 addedUp2 addedDown2) (w2 cI cJ h2 labels2a guesses2a lengths2a words2a times2a totals2a sizes2a labels2 guesses2 lengths2 words2 times2z totals2z sizes2z rowCount2 addedUp2 addedDown2) := by
  refine entV (cc := cX2_tallyRow) (maxL := 4) (by decide) rfl (Nat.le_of_ble_eq_true rfl) ?_
  intro p e s m args below meth c ls A Q X hret
  obtain ⟨hx, hb, hml, hts, hown, hK, hA, hP, hD, hS, hl, hnm⟩ := X
  have hown : s.vm.findClass RX2 = some m.cls := hown
  have hl : lv_has ls 4 [(0, .ref h2), (1, .int i1), (2, .int i2)] := hl
  have hw1 : (Cond.fieldLink RX2 30 "CountLearners$LabelledRows" "sizes" "[I").before args s = true := hts _ (by decide +kernel)
  have hinX2 : ∀ w ∈ wsX20, w ∈ wsX2_tallyRow := by decide +kernel
  have hw3 : (Cond.fieldLink RX2 27 "CountLearners$LabelledRows" "totals" "[I").before args s = true := hts _ (by decide +kernel)
  have hw4 : (Cond.fieldLink RX2 18 "CountLearners$LabelledRows" "lengths" "[I").before args s = true := hts _ (by decide +kernel)
  have hw5 : (Cond.fieldLink RX2 24 "CountLearners$LabelledRows" "times" "[I").before args s = true := hts _ (by decide +kernel)
  have hw6 : (Cond.fieldLink RX2 21 "CountLearners$LabelledRows" "words" "[I").before args s = true := hts _ (by decide +kernel)
  unfold f_X2_tallyRow at h
  refine lv_aload_n hx hb dX2_tallyRow_0 rfl (lv_at hl 0 rfl) ?_
  refine va_get (D := D) (ci := 1) (v := .ref sizes2a) (C := RX2) (T := TX2) (N := 10) hx hb hts hinX2 hown hK.1 hP 0 rfl rfl 6 (by decide) hw1 (fun _ h9 => h9) rfl dX2_tallyRow_1 ?_
  refine lv_iload_n hx hb dX2_tallyRow_4 rfl (lv_at hl 2 rfl) ?_
  refine lv_dup2_11 hx hb dX2_tallyRow_5 rfl rfl ?_
  obtain ⟨hi_1, h⟩ := gA_s h
  refine va_iald hx hb hK.1 hP 7 0 rfl rfl hi_1 dX2_tallyRow_6 ?_
  refine lv_topi (fun v_2 ev_2 => ?_)
  have h := h v_2 ev_2
  refine lv_iconst (v := 1) hx hb dX2_tallyRow_7 (by decide) ?_
  refine lv_iadd hx hb dX2_tallyRow_8 ?_
  obtain ⟨hi_3, h⟩ := sI_s h
  refine va_iast hx hb hK.1 hP hD hS 7 0 rfl rfl hi_3 dX2_tallyRow_9 (fun H locs hP hD hS => ?_)
  obtain ⟨sizes2_4, esizes2_4⟩ : ∃ z, z = upd sizes2 (Int32.toNatClampNeg i2) (v_2 + 1) := ⟨_, rfl⟩
  have h := h sizes2_4 esizes2_4
  rw [← esizes2_4] at hP hD
  have hP : va_P D vwK (w2 cI cJ h2 labels2a guesses2a lengths2a words2a times2a totals2a sizes2a labels2 guesses2 lengths2 words2 times2 totals2 sizes2_4 rowCount2 addedUp2 addedDown2) H := hP
  have hD : va_D A (w2 cI cJ h2 labels2a guesses2a lengths2a words2a times2a totals2a sizes2a labels2 guesses2 lengths2 words2 times2 totals2 sizes2_4 rowCount2 addedUp2 addedDown2) := hD
  refine lv_aload_n hx hb dX2_tallyRow_10 rfl (lv_at hl 0 rfl) ?_
  refine va_get (D := D) (ci := 1) (v := .ref totals2a) (C := RX2) (T := TX2) (N := 10) hx hb hts hinX2 hown hK.1 hP 0 rfl rfl 5 (by decide) hw3 (fun _ h9 => h9) rfl dX2_tallyRow_11 ?_
  refine lv_iload_n hx hb dX2_tallyRow_14 rfl (lv_at hl 2 rfl) ?_
  refine lv_dup2_11 hx hb dX2_tallyRow_15 rfl rfl ?_
  obtain ⟨hi_5, h⟩ := gA_s h
  refine va_iald hx hb hK.1 hP 6 0 rfl rfl hi_5 dX2_tallyRow_16 ?_
  refine lv_topi (fun v_6 ev_6 => ?_)
  have h := h v_6 ev_6
  refine lv_aload_n hx hb dX2_tallyRow_17 rfl (lv_at hl 0 rfl) ?_
  refine va_get (D := D) (ci := 1) (v := .ref lengths2a) (C := RX2) (T := TX2) (N := 10) hx hb hts hinX2 hown hK.1 hP 0 rfl rfl 2 (by decide) hw4 (fun _ h9 => h9) rfl dX2_tallyRow_18 ?_
  refine lv_iload_n hx hb dX2_tallyRow_21 rfl (lv_at hl 1 rfl) ?_
  obtain ⟨hi_7, h⟩ := gA_s h
  refine va_iald hx hb hK.1 hP 3 0 rfl rfl hi_7 dX2_tallyRow_22 ?_
  refine lv_topi (fun v_8 ev_8 => ?_)
  have h := h v_8 ev_8
  refine lv_iadd hx hb dX2_tallyRow_23 ?_
  obtain ⟨hi_9, h⟩ := sI_s h
  refine va_iast hx hb hK.1 hP hD hS 6 0 rfl rfl hi_9 dX2_tallyRow_24 (fun H locs hP hD hS => ?_)
  obtain ⟨totals2_10, etotals2_10⟩ : ∃ z, z = upd totals2 (Int32.toNatClampNeg i2) (v_6 + v_8) := ⟨_, rfl⟩
  have h := h totals2_10 etotals2_10
  rw [← etotals2_10] at hP hD
  have hP : va_P D vwK (w2 cI cJ h2 labels2a guesses2a lengths2a words2a times2a totals2a sizes2a labels2 guesses2 lengths2 words2 times2 totals2_10 sizes2_4 rowCount2 addedUp2 addedDown2) H := hP
  have hD : va_D A (w2 cI cJ h2 labels2a guesses2a lengths2a words2a times2a totals2a sizes2a labels2 guesses2 lengths2 words2 times2 totals2_10 sizes2_4 rowCount2 addedUp2 addedDown2) := hD
  refine lv_iconst (v := 0) hx hb dX2_tallyRow_25 (by decide) ?_
  refine lv_topi (fun x3_11 ex3_11 => ?_)
  have h := nm_s h x3_11 ex3_11
  refine lv_istore_n (lv' := [(3, .int x3_11), (0, .ref h2), (1, .int i1), (2, .int i2)]) hx hb dX2_tallyRow_26 rfl hl (by decide) rfl (fun ls hl => ?_)
  have L27 : ∀ (n : Nat) (y3_12 : Int32) (times2_13 : Nat → Int32) (z3_14 : Int32) (times2_15 : Nat → Int32), f_X2_tallyRow_L27 i1 i2 lengths2 words2 n y3_12 times2_13 = some (z3_14, times2_15) → ∀ (H : Heap) (locs : List Loc) (ls : Array Slot), va_P D vwK (w2 cI cJ h2 labels2a guesses2a lengths2a words2a times2a totals2a sizes2a labels2 guesses2 lengths2 words2 times2_13 totals2_10 sizes2_4 rowCount2 addedUp2 addedDown2) H → va_D A (w2 cI cJ h2 labels2a guesses2a lengths2a words2a times2a totals2a sizes2a labels2 guesses2 lengths2 words2 times2_13 totals2_10 sizes2_4 rowCount2 addedUp2 addedDown2) → va_S A s.heap H locs → lv_has ls 4 [(3, .int y3_12), (0, .ref h2), (1, .int i1), (2, .int i2)] → (∀ (H : Heap) (locs : List Loc) (ls : Array Slot), va_P D vwK (w2 cI cJ h2 labels2a guesses2a lengths2a words2a times2a totals2a sizes2a labels2 guesses2 lengths2 words2 times2_15 totals2_10 sizes2_4 rowCount2 addedUp2 addedDown2) H → va_D A (w2 cI cJ h2 labels2a guesses2a lengths2a words2a times2a totals2a sizes2a labels2 guesses2 lengths2 words2 times2_15 totals2_10 sizes2_4 rowCount2 addedUp2 addedDown2) → va_S A s.heap H locs → lv_has ls 4 [] → W p l e (rmOf 0 0) s m args below meth c H locs 0 0 Q (F0 m 68 ls [])) → W p l e (rmOf 0 0) s m args below meth c H locs 0 0 Q (F0 m 27 ls []) := by
    intro n
    induction n with
    | zero => intro y3_12 times2_13 z3_14 times2_15 h; rw [f_X2_tallyRow_L27.eq_1] at h; cases h
    | succ n ih =>
      intro y3_12 times2_13 z3_14 times2_15 h H locs ls hP hD hS hl K
      rw [f_X2_tallyRow_L27.eq_2] at h
      refine lv_iload_n hx hb dX2_tallyRow_27 rfl (lv_at hl 0 rfl) ?_
      refine lv_aload_n hx hb dX2_tallyRow_28 rfl (lv_at hl 1 rfl) ?_
      refine va_get (D := D) (ci := 1) (v := .ref lengths2a) (C := RX2) (T := TX2) (N := 10) hx hb hts hinX2 hown hK.1 hP 0 rfl rfl 2 (by decide) hw4 (fun _ h9 => h9) rfl dX2_tallyRow_29 ?_
      refine lv_iload_n hx hb dX2_tallyRow_32 rfl (lv_at hl 2 rfl) ?_
      obtain ⟨hi_16, h⟩ := gA_s h
      refine va_iald hx hb hK.1 hP 3 0 rfl rfl hi_16 dX2_tallyRow_33 ?_
      refine lv_topi (fun v_17 ev_17 => ?_)
      have h := h v_17 ev_17
      refine lv_icmp_ge (tgt := 68) hx hb dX2_tallyRow_34 (by decide) (fun c_18 => ?_) (fun c_18 => ?_)
      · have h := it_p c_18 h
        cases h
        exact K _ _ _ hP hD hS (lv_sub hl [] rfl)
      · have h := it_n c_18 h
        refine lv_aload_n hx hb dX2_tallyRow_37 rfl (lv_at hl 1 rfl) ?_
        refine va_get (D := D) (ci := 1) (v := .ref times2a) (C := RX2) (T := TX2) (N := 10) hx hb hts hinX2 hown hK.1 hP 0 rfl rfl 4 (by decide) hw5 (fun _ h9 => h9) rfl dX2_tallyRow_38 ?_
        refine lv_iload_n hx hb dX2_tallyRow_41 rfl (lv_at hl 3 rfl) ?_
        refine lv_bipush (v := 8) hx hb dX2_tallyRow_42 (by decide) ?_
        refine lv_imul hx hb dX2_tallyRow_44 ?_
        refine lv_aload_n hx hb dX2_tallyRow_45 rfl (lv_at hl 1 rfl) ?_
        refine va_get (D := D) (ci := 1) (v := .ref words2a) (C := RX2) (T := TX2) (N := 10) hx hb hts hinX2 hown hK.1 hP 0 rfl rfl 3 (by decide) hw6 (fun _ h9 => h9) rfl dX2_tallyRow_46 ?_
        refine lv_iload_n hx hb dX2_tallyRow_49 rfl (lv_at hl 2 rfl) ?_
        refine lv_bipush (v := 6) hx hb dX2_tallyRow_50 (by decide) ?_
        refine lv_imul hx hb dX2_tallyRow_52 ?_
        refine lv_iload_n hx hb dX2_tallyRow_53 rfl (lv_at hl 0 rfl) ?_
        refine lv_iadd hx hb dX2_tallyRow_54 ?_
        obtain ⟨hi_19, h⟩ := gA_s h
        refine va_iald hx hb hK.1 hP 4 0 rfl rfl hi_19 dX2_tallyRow_55 ?_
        refine lv_topi (fun v_20 ev_20 => ?_)
        have h := h v_20 ev_20
        refine lv_iadd hx hb dX2_tallyRow_56 ?_
        refine lv_dup2_11 hx hb dX2_tallyRow_57 rfl rfl ?_
        obtain ⟨hi_21, h⟩ := gA_s h
        refine va_iald hx hb hK.1 hP 5 0 rfl rfl hi_21 dX2_tallyRow_58 ?_
        refine lv_topi (fun v_22 ev_22 => ?_)
        have h := h v_22 ev_22
        refine lv_iconst (v := 1) hx hb dX2_tallyRow_59 (by decide) ?_
        refine lv_iadd hx hb dX2_tallyRow_60 ?_
        obtain ⟨hi_23, h⟩ := sI_s h
        refine va_iast hx hb hK.1 hP hD hS 5 0 rfl rfl hi_23 dX2_tallyRow_61 (fun H locs hP hD hS => ?_)
        obtain ⟨times2_24, etimes2_24⟩ : ∃ z, z = upd times2_13 (Int32.toNatClampNeg ((i2 * 8) + v_20)) (v_22 + 1) := ⟨_, rfl⟩
        have h := h times2_24 etimes2_24
        rw [← etimes2_24] at hP hD
        have hP : va_P D vwK (w2 cI cJ h2 labels2a guesses2a lengths2a words2a times2a totals2a sizes2a labels2 guesses2 lengths2 words2 times2_24 totals2_10 sizes2_4 rowCount2 addedUp2 addedDown2) H := hP
        have hD : va_D A (w2 cI cJ h2 labels2a guesses2a lengths2a words2a times2a totals2a sizes2a labels2 guesses2 lengths2 words2 times2_24 totals2_10 sizes2_4 rowCount2 addedUp2 addedDown2) := hD
        obtain ⟨x3_25, ex3_25⟩ : ∃ z : Int32, z = y3_12 + 1 := ⟨_, rfl⟩
        have h := nm_s h x3_25 ex3_25
        refine lv_iinc (v := x3_25) (lv' := [(3, .int x3_25), (0, .ref h2), (1, .int i1), (2, .int i2)]) hx hb dX2_tallyRow_62 hl (k := 0) rfl (by rw [ex3_25]; rfl) (by decide) rfl (fun ls hl => ?_)
        refine lv_goto (tgt := 27) hx hb dX2_tallyRow_65 (by decide) ?_
        exact ih _ _ _ _ h _ _ _ hP hD hS (lv_sub hl [0, 1, 2, 3] rfl) K
  obtain ⟨⟨z3_26, times2_27⟩, hl_28, h⟩ := bd_s h
  refine L27 FU x3_11 times2 _ _ hl_28 _ _ _ hP hD hS (lv_sub hl [0, 1, 2, 3] rfl) (fun H locs ls hP hD hS hl => ?_)
  cases h
  exact hret _ _ _ _ hP hD hS dX2_tallyRow_68
def f_X2_tally_L26 (labels2 : Nat → Int32) (guesses2 : Nat → Int32) (lengths2 : Nat → Int32) (words2 : Nat → Int32) (rowCount2 : Int32) : Nat → Int32 → (Nat → Int32) → (Nat → Int32) → (Nat → Int32) → Option (Int32 × (Nat → Int32) × (Nat → Int32) × (Nat → Int32))
  | 0, _, _, _, _ => none
  | n + 1, y1_8, times2_9, totals2_10, sizes2_11 =>
  if rowCount2 ≤ y1_8 then
    some (y1_8, times2_9, totals2_10, sizes2_11)
  else
    gA 40 labels2 y1_8 fun v_18 =>
    if v_18 = (-1) then
      gA 40 guesses2 y1_8 fun v_31 =>
      nm (α := Int32) (v_31) fun x2_32 =>
      if x2_32 = (-1) then
        nm (α := Int32) (y1_8 + 1) fun x1_34 =>
        f_X2_tally_L26 labels2 guesses2 lengths2 words2 rowCount2 n x1_34 times2_9 totals2_10 sizes2_11
      else
        Option.bind (f_X2_tallyRow y1_8 x2_32 lengths2 words2 times2_9 totals2_10 sizes2_11) fun (times2_35, totals2_36, sizes2_37) =>
        nm (α := Int32) (y1_8 + 1) fun x1_39 =>
        f_X2_tally_L26 labels2 guesses2 lengths2 words2 rowCount2 n x1_39 times2_35 totals2_36 sizes2_37
    else
      gA 40 labels2 y1_8 fun v_21 =>
      nm (α := Int32) (v_21) fun x2_22 =>
      if x2_22 = (-1) then
        nm (α := Int32) (y1_8 + 1) fun x1_24 =>
        f_X2_tally_L26 labels2 guesses2 lengths2 words2 rowCount2 n x1_24 times2_9 totals2_10 sizes2_11
      else
        Option.bind (f_X2_tallyRow y1_8 x2_22 lengths2 words2 times2_9 totals2_10 sizes2_11) fun (times2_25, totals2_26, sizes2_27) =>
        nm (α := Int32) (y1_8 + 1) fun x1_29 =>
        f_X2_tally_L26 labels2 guesses2 lengths2 words2 rowCount2 n x1_29 times2_25 totals2_26 sizes2_27
def f_X2_tally (labels2 : Nat → Int32) (guesses2 : Nat → Int32) (lengths2 : Nat → Int32) (words2 : Nat → Int32) (times2 : Nat → Int32) (totals2 : Nat → Int32) (sizes2 : Nat → Int32) (rowCount2 : Int32) : Option ((Nat → Int32) × (Nat → Int32) × (Nat → Int32)) :=
  Option.bind (f_X5_setAll 32 times2 0) fun times2_1 =>
  Option.bind (f_X5_setAll 4 totals2 0) fun totals2_3 =>
  Option.bind (f_X5_setAll 4 sizes2 0) fun sizes2_5 =>
  nm (α := Int32) (0) fun x1_7 =>
  Option.bind (f_X2_tally_L26 labels2 guesses2 lengths2 words2 rowCount2 FU x1_7 times2_1 totals2_3 sizes2_5) fun (z1_40, times2_41, totals2_42, sizes2_43) =>
  some (times2_41, totals2_42, sizes2_43)
set_option maxHeartbeats 4000000 in
set_option maxRecDepth 100000 in
theorem c_X2_tally (l : Launch) (D : va_G) (cI cJ : ClassId) (h2 labels2a guesses2a lengths2a words2a times2a totals2a sizes2a : Nat) (labels2 : Nat → Int32) (guesses2 : Nat → Int32) (lengths2 : Nat → Int32) (words2 : Nat → Int32) (times2 : Nat → Int32) (totals2 : Nat → Int32) (sizes2 : Nat → Int32) (rowCount2 : Int32) (addedUp2 : Int32) (addedDown2 : Int32) (times2z : Nat → Int32) (totals2z : Nat → Int32) (sizes2z : Nat → Int32) (h : f_X2_tally labels2 guesses2 lengths2 words2 times2 totals2 sizes2 rowCount2 = some (times2z, totals2z, sizes2z)) : CV l D cI cJ yX2_tally wsX2_tally 1 23 [.ref h2] (w2 cI cJ h2 labels2a guesses2a lengths2a words2a times2a totals2a sizes2a labels2 guesses2 lengths2 words2 times2 totals2 sizes2 rowCount2 addedUp2 addedDown2) (w2 cI cJ h2 labels2a guesses2a lengths2a words2a times2a totals2a sizes2a labels2 guesses2 lengths2 words2 times2z totals2z sizes2z rowCount2 addedUp2 addedDown2) := by
  refine entV (cc := cX2_tally) (maxL := 3) (by decide) rfl (Nat.le_of_ble_eq_true rfl) ?_
  intro p e s m args below meth c ls A Q X hret
  obtain ⟨hx, hb, hml, hts, hown, hK, hA, hP, hD, hS, hl, hnm⟩ := X
  have hown : s.vm.findClass RX2 = some m.cls := hown
  have hl : lv_has ls 3 [(0, .ref h2)] := hl
  have hw1 : (Cond.fieldLink RX2 24 "CountLearners$LabelledRows" "times" "[I").before args s = true := hts _ (by decide +kernel)
  have hinX2 : ∀ w ∈ wsX20, w ∈ wsX2_tally := by decide +kernel
  have hw3 : (Cond.initialized RX5).before args s = true := hts _ (by decide +kernel)
  have hw4 : (Cond.static yX5_setAll).before args s = true := hts _ (by decide +kernel)
  have hw5 : (Cond.fieldLink RX2 27 "CountLearners$LabelledRows" "totals" "[I").before args s = true := hts _ (by decide +kernel)
  have hw6 : (Cond.fieldLink RX2 30 "CountLearners$LabelledRows" "sizes" "[I").before args s = true := hts _ (by decide +kernel)
  have hw7 : (Cond.fieldLink RX2 33 "CountLearners$LabelledRows" "rowCount" "I").before args s = true := hts _ (by decide +kernel)
  have hw8 : (Cond.fieldLink RX2 11 "CountLearners$LabelledRows" "labels" "[I").before args s = true := hts _ (by decide +kernel)
  have hw9 : (Cond.fieldLink RX2 15 "CountLearners$LabelledRows" "guesses" "[I").before args s = true := hts _ (by decide +kernel)
  unfold f_X2_tally at h
  refine lv_aload_n hx hb dX2_tally_0 rfl (lv_at hl 0 rfl) ?_
  refine va_get (D := D) (ci := 1) (v := .ref times2a) (C := RX2) (T := TX2) (N := 10) hx hb hts hinX2 hown hK.1 hP 0 rfl rfl 4 (by decide) hw1 (fun _ h9 => h9) rfl dX2_tally_1 ?_
  refine lv_iconst (v := 0) hx hb dX2_tally_4 (by decide) ?_
  obtain ⟨times2_1, hc_2, h⟩ := bd_s h
  refine callNv (As := [.ref times2a, .int 0]) (rest := []) (ws2 := (w2 cI cJ h2 labels2a guesses2a lengths2a words2a times2a totals2a sizes2a labels2 guesses2 lengths2 words2 times2_1 totals2 sizes2 rowCount2 addedUp2 addedDown2)) ⟨hx, hb, hml, hown, hts⟩ (c_X5_setAll l D cI cJ times2a 32 times2 0 times2_1 hc_2) ⟨va_cnB 2 hts gX2_tally_X5_setAll_n79 rfl rfl rfl hK.2.2.1 hw3 (by decide +kernel) ⟨Nat.le_of_ble_eq_true rfl, Nat.le_of_ble_eq_true rfl⟩, hw4, trivial⟩ hK hP hD hS hA [5] [0, 1, 2, 3, 4, 6, 7] [0, 1, 2, 3, 4, 7, 5, 6] ⟨[(h2, .inr (1, [.ref labels2a, .ref guesses2a, .ref lengths2a, .ref words2a, .ref times2a, .ref totals2a, .ref sizes2a, .int rowCount2, .int addedUp2, .int addedDown2])), (labels2a, .inl (cI, 40, .inl labels2)), (guesses2a, .inl (cI, 40, .inl guesses2)), (lengths2a, .inl (cI, 40, .inl lengths2)), (words2a, .inl (cI, 240, .inl words2)), (totals2a, .inl (cI, 4, .inl totals2)), (sizes2a, .inl (cI, 4, .inl sizes2))], rfl, rfl, rfl, rfl, by decide, rfl, rfl⟩ rfl hl.1 rfl (Nat.le_of_ble_eq_true rfl) dX2_tally_5 ⟨Nat.zero_le _, Nat.zero_le _⟩ (fun H locs hP hD hS => ?_)
  refine lv_aload_n hx hb dX2_tally_8 rfl (lv_at hl 0 rfl) ?_
  refine va_get (D := D) (ci := 1) (v := .ref totals2a) (C := RX2) (T := TX2) (N := 10) hx hb hts hinX2 hown hK.1 hP 0 rfl rfl 5 (by decide) hw5 (fun _ h9 => h9) rfl dX2_tally_9 ?_
  refine lv_iconst (v := 0) hx hb dX2_tally_12 (by decide) ?_
  obtain ⟨totals2_3, hc_4, h⟩ := bd_s h
  refine callNv (As := [.ref totals2a, .int 0]) (rest := []) (ws2 := (w2 cI cJ h2 labels2a guesses2a lengths2a words2a times2a totals2a sizes2a labels2 guesses2 lengths2 words2 times2_1 totals2_3 sizes2 rowCount2 addedUp2 addedDown2)) ⟨hx, hb, hml, hown, hts⟩ (c_X5_setAll l D cI cJ totals2a 4 totals2 0 totals2_3 hc_4) ⟨va_cnB 2 hts gX2_tally_X5_setAll_n79 rfl rfl rfl hK.2.2.1 hw3 (by decide +kernel) ⟨Nat.le_of_ble_eq_true rfl, Nat.le_of_ble_eq_true rfl⟩, hw4, trivial⟩ hK hP hD hS hA [6] [0, 1, 2, 3, 4, 5, 7] [0, 1, 2, 3, 4, 5, 7, 6] ⟨[(h2, .inr (1, [.ref labels2a, .ref guesses2a, .ref lengths2a, .ref words2a, .ref times2a, .ref totals2a, .ref sizes2a, .int rowCount2, .int addedUp2, .int addedDown2])), (labels2a, .inl (cI, 40, .inl labels2)), (guesses2a, .inl (cI, 40, .inl guesses2)), (lengths2a, .inl (cI, 40, .inl lengths2)), (words2a, .inl (cI, 240, .inl words2)), (times2a, .inl (cI, 32, .inl times2_1)), (sizes2a, .inl (cI, 4, .inl sizes2))], rfl, rfl, rfl, rfl, by decide, rfl, rfl⟩ rfl hl.1 rfl (Nat.le_of_ble_eq_true rfl) dX2_tally_13 ⟨Nat.zero_le _, Nat.zero_le _⟩ (fun H locs hP hD hS => ?_)
  refine lv_aload_n hx hb dX2_tally_16 rfl (lv_at hl 0 rfl) ?_
  refine va_get (D := D) (ci := 1) (v := .ref sizes2a) (C := RX2) (T := TX2) (N := 10) hx hb hts hinX2 hown hK.1 hP 0 rfl rfl 6 (by decide) hw6 (fun _ h9 => h9) rfl dX2_tally_17 ?_
  refine lv_iconst (v := 0) hx hb dX2_tally_20 (by decide) ?_
  obtain ⟨sizes2_5, hc_6, h⟩ := bd_s h
  refine callNv (As := [.ref sizes2a, .int 0]) (rest := []) (ws2 := (w2 cI cJ h2 labels2a guesses2a lengths2a words2a times2a totals2a sizes2a labels2 guesses2 lengths2 words2 times2_1 totals2_3 sizes2_5 rowCount2 addedUp2 addedDown2)) ⟨hx, hb, hml, hown, hts⟩ (c_X5_setAll l D cI cJ sizes2a 4 sizes2 0 sizes2_5 hc_6) ⟨va_cnB 2 hts gX2_tally_X5_setAll_n79 rfl rfl rfl hK.2.2.1 hw3 (by decide +kernel) ⟨Nat.le_of_ble_eq_true rfl, Nat.le_of_ble_eq_true rfl⟩, hw4, trivial⟩ hK hP hD hS hA [7] [0, 1, 2, 3, 4, 5, 6] [0, 1, 2, 3, 4, 5, 6, 7] ⟨[(h2, .inr (1, [.ref labels2a, .ref guesses2a, .ref lengths2a, .ref words2a, .ref times2a, .ref totals2a, .ref sizes2a, .int rowCount2, .int addedUp2, .int addedDown2])), (labels2a, .inl (cI, 40, .inl labels2)), (guesses2a, .inl (cI, 40, .inl guesses2)), (lengths2a, .inl (cI, 40, .inl lengths2)), (words2a, .inl (cI, 240, .inl words2)), (times2a, .inl (cI, 32, .inl times2_1)), (totals2a, .inl (cI, 4, .inl totals2_3))], rfl, rfl, rfl, rfl, by decide, rfl, rfl⟩ rfl hl.1 rfl (Nat.le_of_ble_eq_true rfl) dX2_tally_21 ⟨Nat.zero_le _, Nat.zero_le _⟩ (fun H locs hP hD hS => ?_)
  refine lv_iconst (v := 0) hx hb dX2_tally_24 (by decide) ?_
  refine lv_topi (fun x1_7 ex1_7 => ?_)
  have h := nm_s h x1_7 ex1_7
  refine lv_istore_n (lv' := [(1, .int x1_7), (0, .ref h2)]) hx hb dX2_tally_25 rfl hl (by decide) rfl (fun ls hl => ?_)
  have L26 : ∀ (n : Nat) (y1_8 : Int32) (times2_9 : Nat → Int32) (totals2_10 : Nat → Int32) (sizes2_11 : Nat → Int32) (z1_12 : Int32) (times2_13 : Nat → Int32) (totals2_14 : Nat → Int32) (sizes2_15 : Nat → Int32), f_X2_tally_L26 labels2 guesses2 lengths2 words2 rowCount2 n y1_8 times2_9 totals2_10 sizes2_11 = some (z1_12, times2_13, totals2_14, sizes2_15) → ∀ (H : Heap) (locs : List Loc) (ls : Array Slot), va_P D vwK (w2 cI cJ h2 labels2a guesses2a lengths2a words2a times2a totals2a sizes2a labels2 guesses2 lengths2 words2 times2_9 totals2_10 sizes2_11 rowCount2 addedUp2 addedDown2) H → va_D A (w2 cI cJ h2 labels2a guesses2a lengths2a words2a times2a totals2a sizes2a labels2 guesses2 lengths2 words2 times2_9 totals2_10 sizes2_11 rowCount2 addedUp2 addedDown2) → va_S A s.heap H locs → lv_has ls 3 [(1, .int y1_8), (0, .ref h2)] → (∀ (H : Heap) (locs : List Loc) (ls : Array Slot), va_P D vwK (w2 cI cJ h2 labels2a guesses2a lengths2a words2a times2a totals2a sizes2a labels2 guesses2 lengths2 words2 times2_13 totals2_14 sizes2_15 rowCount2 addedUp2 addedDown2) H → va_D A (w2 cI cJ h2 labels2a guesses2a lengths2a words2a times2a totals2a sizes2a labels2 guesses2 lengths2 words2 times2_13 totals2_14 sizes2_15 rowCount2 addedUp2 addedDown2) → va_S A s.heap H locs → lv_has ls 3 [] → W p l e (rmOf 1 23) s m args below meth c H locs 0 0 Q (F0 m 77 ls [])) → W p l e (rmOf 1 23) s m args below meth c H locs 0 0 Q (F0 m 26 ls []) := by
    intro n
    induction n with
    | zero => intro y1_8 times2_9 totals2_10 sizes2_11 z1_12 times2_13 totals2_14 sizes2_15 h; rw [f_X2_tally_L26.eq_1] at h; cases h
    | succ n ih =>
      intro y1_8 times2_9 totals2_10 sizes2_11 z1_12 times2_13 totals2_14 sizes2_15 h H locs ls hP hD hS hl K
      rw [f_X2_tally_L26.eq_2] at h
      refine lv_iload_n hx hb dX2_tally_26 rfl (lv_at hl 0 rfl) ?_
      refine lv_aload_n hx hb dX2_tally_27 rfl (lv_at hl 1 rfl) ?_
      refine va_get (D := D) (ci := 1) (v := .int rowCount2) (C := RX2) (T := TX2) (N := 10) hx hb hts hinX2 hown hK.1 hP 0 rfl rfl 7 (by decide) hw7 (fun _ h9 => h9) rfl dX2_tally_28 ?_
      refine lv_icmp_ge (tgt := 77) hx hb dX2_tally_31 (by decide) (fun c_16 => ?_) (fun c_16 => ?_)
      · have h := it_p c_16 h
        cases h
        exact K _ _ _ hP hD hS (lv_sub hl [] rfl)
      · have h := it_n c_16 h
        refine lv_aload_n hx hb dX2_tally_34 rfl (lv_at hl 1 rfl) ?_
        refine va_get (D := D) (ci := 1) (v := .ref labels2a) (C := RX2) (T := TX2) (N := 10) hx hb hts hinX2 hown hK.1 hP 0 rfl rfl 0 (by decide) hw8 (fun _ h9 => h9) rfl dX2_tally_35 ?_
        refine lv_iload_n hx hb dX2_tally_38 rfl (lv_at hl 0 rfl) ?_
        obtain ⟨hi_17, h⟩ := gA_s h
        refine va_iald hx hb hK.1 hP 1 0 rfl rfl hi_17 dX2_tally_39 ?_
        refine lv_topi (fun v_18 ev_18 => ?_)
        have h := h v_18 ev_18
        refine lv_iconst (v := (-1)) hx hb dX2_tally_40 (by decide) ?_
        refine lv_icmp_ne (tgt := 53) hx hb dX2_tally_41 (by decide) (fun c_19 => ?_) (fun c_19 => ?_)
        · have h := it_n c_19 h
          refine lv_aload_n hx hb dX2_tally_53 rfl (lv_at hl 1 rfl) ?_
          refine va_get (D := D) (ci := 1) (v := .ref labels2a) (C := RX2) (T := TX2) (N := 10) hx hb hts hinX2 hown hK.1 hP 0 rfl rfl 0 (by decide) hw8 (fun _ h9 => h9) rfl dX2_tally_54 ?_
          refine lv_iload_n hx hb dX2_tally_57 rfl (lv_at hl 0 rfl) ?_
          obtain ⟨hi_20, h⟩ := gA_s h
          refine va_iald hx hb hK.1 hP 1 0 rfl rfl hi_20 dX2_tally_58 ?_
          refine lv_topi (fun v_21 ev_21 => ?_)
          have h := h v_21 ev_21
          refine lv_topi (fun x2_22 ex2_22 => ?_)
          have h := nm_s h x2_22 ex2_22
          refine lv_istore_n (lv' := [(2, .int x2_22), (1, .int y1_8), (0, .ref h2)]) hx hb dX2_tally_59 rfl hl (by decide) rfl (fun ls hl => ?_)
          refine lv_iload_n hx hb dX2_tally_60 rfl (lv_at hl 0 rfl) ?_
          refine lv_iconst (v := (-1)) hx hb dX2_tally_61 (by decide) ?_
          refine lv_icmp_eq (tgt := 71) hx hb dX2_tally_62 (by decide) (fun c_23 => ?_) (fun c_23 => ?_)
          · have h := it_p c_23 h
            obtain ⟨x1_24, ex1_24⟩ : ∃ z : Int32, z = y1_8 + 1 := ⟨_, rfl⟩
            have h := nm_s h x1_24 ex1_24
            refine lv_iinc (v := x1_24) (lv' := [(1, .int x1_24), (2, .int x2_22), (0, .ref h2)]) hx hb dX2_tally_71 hl (k := 1) rfl (by rw [ex1_24]; rfl) (by decide) rfl (fun ls hl => ?_)
            refine lv_goto (tgt := 26) hx hb dX2_tally_74 (by decide) ?_
            exact ih _ _ _ _ _ _ _ _ h _ _ _ hP hD hS (lv_sub hl [0, 2] rfl) K
          · have h := it_n c_23 h
            refine lv_aload_n hx hb dX2_tally_65 rfl (lv_at hl 2 rfl) ?_
            refine lv_iload_n hx hb dX2_tally_66 rfl (lv_at hl 1 rfl) ?_
            refine lv_iload_n hx hb dX2_tally_67 rfl (lv_at hl 0 rfl) ?_
            obtain ⟨⟨times2_25, totals2_26, sizes2_27⟩, hc_28, h⟩ := bd_s h
            refine callTv (As := [.int y1_8, .int x2_22]) (rest := []) ⟨hx, hb, hml, hown, hts⟩ (c_X2_tallyRow l D cI cJ h2 labels2a guesses2a lengths2a words2a times2a totals2a sizes2a labels2 guesses2 lengths2 words2 times2_9 totals2_10 sizes2_11 rowCount2 addedUp2 addedDown2 y1_8 x2_22 times2_25 totals2_26 sizes2_27 hc_28) (cwV 2 hts gX2_tally_X2_tallyRow rfl rfl rfl (by decide +kernel) ⟨Nat.le_of_ble_eq_true rfl, Nat.le_of_ble_eq_true rfl⟩) hK hP hD hS hA 0 1 rfl rfl rfl rfl hl.1 rfl (Nat.le_of_ble_eq_true rfl) dX2_tally_68 ⟨Nat.zero_le _, Nat.zero_le _⟩ (fun H locs hP hD hS => ?_)
            obtain ⟨x1_29, ex1_29⟩ : ∃ z : Int32, z = y1_8 + 1 := ⟨_, rfl⟩
            have h := nm_s h x1_29 ex1_29
            refine lv_iinc (v := x1_29) (lv' := [(1, .int x1_29), (2, .int x2_22), (0, .ref h2)]) hx hb dX2_tally_71 hl (k := 1) rfl (by rw [ex1_29]; rfl) (by decide) rfl (fun ls hl => ?_)
            refine lv_goto (tgt := 26) hx hb dX2_tally_74 (by decide) ?_
            exact ih _ _ _ _ _ _ _ _ h _ _ _ hP hD hS (lv_sub hl [0, 2] rfl) K
        · have h := it_p c_19 h
          refine lv_aload_n hx hb dX2_tally_44 rfl (lv_at hl 1 rfl) ?_
          refine va_get (D := D) (ci := 1) (v := .ref guesses2a) (C := RX2) (T := TX2) (N := 10) hx hb hts hinX2 hown hK.1 hP 0 rfl rfl 1 (by decide) hw9 (fun _ h9 => h9) rfl dX2_tally_45 ?_
          refine lv_iload_n hx hb dX2_tally_48 rfl (lv_at hl 0 rfl) ?_
          obtain ⟨hi_30, h⟩ := gA_s h
          refine va_iald hx hb hK.1 hP 2 0 rfl rfl hi_30 dX2_tally_49 ?_
          refine lv_topi (fun v_31 ev_31 => ?_)
          have h := h v_31 ev_31
          refine lv_goto (tgt := 59) hx hb dX2_tally_50 (by decide) ?_
          refine lv_topi (fun x2_32 ex2_32 => ?_)
          have h := nm_s h x2_32 ex2_32
          refine lv_istore_n (lv' := [(2, .int x2_32), (1, .int y1_8), (0, .ref h2)]) hx hb dX2_tally_59 rfl hl (by decide) rfl (fun ls hl => ?_)
          refine lv_iload_n hx hb dX2_tally_60 rfl (lv_at hl 0 rfl) ?_
          refine lv_iconst (v := (-1)) hx hb dX2_tally_61 (by decide) ?_
          refine lv_icmp_eq (tgt := 71) hx hb dX2_tally_62 (by decide) (fun c_33 => ?_) (fun c_33 => ?_)
          · have h := it_p c_33 h
            obtain ⟨x1_34, ex1_34⟩ : ∃ z : Int32, z = y1_8 + 1 := ⟨_, rfl⟩
            have h := nm_s h x1_34 ex1_34
            refine lv_iinc (v := x1_34) (lv' := [(1, .int x1_34), (2, .int x2_32), (0, .ref h2)]) hx hb dX2_tally_71 hl (k := 1) rfl (by rw [ex1_34]; rfl) (by decide) rfl (fun ls hl => ?_)
            refine lv_goto (tgt := 26) hx hb dX2_tally_74 (by decide) ?_
            exact ih _ _ _ _ _ _ _ _ h _ _ _ hP hD hS (lv_sub hl [0, 2] rfl) K
          · have h := it_n c_33 h
            refine lv_aload_n hx hb dX2_tally_65 rfl (lv_at hl 2 rfl) ?_
            refine lv_iload_n hx hb dX2_tally_66 rfl (lv_at hl 1 rfl) ?_
            refine lv_iload_n hx hb dX2_tally_67 rfl (lv_at hl 0 rfl) ?_
            obtain ⟨⟨times2_35, totals2_36, sizes2_37⟩, hc_38, h⟩ := bd_s h
            refine callTv (As := [.int y1_8, .int x2_32]) (rest := []) ⟨hx, hb, hml, hown, hts⟩ (c_X2_tallyRow l D cI cJ h2 labels2a guesses2a lengths2a words2a times2a totals2a sizes2a labels2 guesses2 lengths2 words2 times2_9 totals2_10 sizes2_11 rowCount2 addedUp2 addedDown2 y1_8 x2_32 times2_35 totals2_36 sizes2_37 hc_38) (cwV 2 hts gX2_tally_X2_tallyRow rfl rfl rfl (by decide +kernel) ⟨Nat.le_of_ble_eq_true rfl, Nat.le_of_ble_eq_true rfl⟩) hK hP hD hS hA 0 1 rfl rfl rfl rfl hl.1 rfl (Nat.le_of_ble_eq_true rfl) dX2_tally_68 ⟨Nat.zero_le _, Nat.zero_le _⟩ (fun H locs hP hD hS => ?_)
            obtain ⟨x1_39, ex1_39⟩ : ∃ z : Int32, z = y1_8 + 1 := ⟨_, rfl⟩
            have h := nm_s h x1_39 ex1_39
            refine lv_iinc (v := x1_39) (lv' := [(1, .int x1_39), (2, .int x2_32), (0, .ref h2)]) hx hb dX2_tally_71 hl (k := 1) rfl (by rw [ex1_39]; rfl) (by decide) rfl (fun ls hl => ?_)
            refine lv_goto (tgt := 26) hx hb dX2_tally_74 (by decide) ?_
            exact ih _ _ _ _ _ _ _ _ h _ _ _ hP hD hS (lv_sub hl [0, 2] rfl) K
  obtain ⟨⟨z1_40, times2_41, totals2_42, sizes2_43⟩, hl_44, h⟩ := bd_s h
  refine L26 FU x1_7 times2_1 totals2_3 sizes2_5 _ _ _ _ hl_44 _ _ _ hP hD hS (lv_sub hl [0, 1] rfl) (fun H locs ls hP hD hS hl => ?_)
  cases h
  exact hret _ _ _ _ hP hD hS dX2_tally_77
def f_X2_startAnew (labels2 : Nat → Int32) (guesses2 : Nat → Int32) (lengths2 : Nat → Int32) (words2 : Nat → Int32) (times2 : Nat → Int32) (totals2 : Nat → Int32) (sizes2 : Nat → Int32) (rowCount2 : Int32) : Option ((Nat → Int32) × (Nat → Int32) × (Nat → Int32) × (Nat → Int32)) :=
  Option.bind (f_X5_setAll 40 guesses2 (-1)) fun guesses2_1 =>
  Option.bind (f_X2_tally labels2 guesses2_1 lengths2 words2 times2 totals2 sizes2 rowCount2) fun (times2_3, totals2_4, sizes2_5) =>
  some (guesses2_1, times2_3, totals2_4, sizes2_5)
set_option maxHeartbeats 4000000 in
set_option maxRecDepth 100000 in
theorem c_X2_startAnew (l : Launch) (D : va_G) (cI cJ : ClassId) (h2 labels2a guesses2a lengths2a words2a times2a totals2a sizes2a : Nat) (labels2 : Nat → Int32) (guesses2 : Nat → Int32) (lengths2 : Nat → Int32) (words2 : Nat → Int32) (times2 : Nat → Int32) (totals2 : Nat → Int32) (sizes2 : Nat → Int32) (rowCount2 : Int32) (addedUp2 : Int32) (addedDown2 : Int32) (guesses2z : Nat → Int32) (times2z : Nat → Int32) (totals2z : Nat → Int32) (sizes2z : Nat → Int32) (h : f_X2_startAnew labels2 guesses2 lengths2 words2 times2 totals2 sizes2 rowCount2 = some (guesses2z, times2z, totals2z, sizes2z)) : CV l D cI cJ yX2_startAnew wsX2_startAnew 2 45 [.ref h2] (w2 cI cJ h2 labels2a guesses2a lengths2a words2a times2a totals2a sizes2a labels2 guesses2 lengths2 words2 times2 totals2 sizes2 rowCount2 addedUp2 addedDown2) (w2 cI cJ h2 labels2a guesses2a lengths2a words2a times2a totals2a sizes2a labels2 guesses2z lengths2 words2 times2z totals2z sizes2z rowCount2 addedUp2 addedDown2) := by
  refine entV (cc := cX2_startAnew) (maxL := 1) (by decide) rfl (Nat.le_of_ble_eq_true rfl) ?_
  intro p e s m args below meth c ls A Q X hret
  obtain ⟨hx, hb, hml, hts, hown, hK, hA, hP, hD, hS, hl, hnm⟩ := X
  have hown : s.vm.findClass RX2 = some m.cls := hown
  have hl : lv_has ls 1 [(0, .ref h2)] := hl
  have hw1 : (Cond.fieldLink RX2 15 "CountLearners$LabelledRows" "guesses" "[I").before args s = true := hts _ (by decide +kernel)
  have hinX2 : ∀ w ∈ wsX20, w ∈ wsX2_startAnew := by decide +kernel
  have hw3 : (Cond.initialized RX5).before args s = true := hts _ (by decide +kernel)
  have hw4 : (Cond.static yX5_setAll).before args s = true := hts _ (by decide +kernel)
  unfold f_X2_startAnew at h
  refine lv_aload_n hx hb dX2_startAnew_0 rfl (lv_at hl 0 rfl) ?_
  refine va_get (D := D) (ci := 1) (v := .ref guesses2a) (C := RX2) (T := TX2) (N := 10) hx hb hts hinX2 hown hK.1 hP 0 rfl rfl 1 (by decide) hw1 (fun _ h9 => h9) rfl dX2_startAnew_1 ?_
  refine lv_iconst (v := (-1)) hx hb dX2_startAnew_4 (by decide) ?_
  obtain ⟨guesses2_1, hc_2, h⟩ := bd_s h
  refine callNv (As := [.ref guesses2a, .int (-1)]) (rest := []) (ws2 := (w2 cI cJ h2 labels2a guesses2a lengths2a words2a times2a totals2a sizes2a labels2 guesses2_1 lengths2 words2 times2 totals2 sizes2 rowCount2 addedUp2 addedDown2)) ⟨hx, hb, hml, hown, hts⟩ (c_X5_setAll l D cI cJ guesses2a 40 guesses2 (-1) guesses2_1 hc_2) ⟨va_cnB 2 hts gX2_startAnew_X5_setAll_n79 rfl rfl rfl hK.2.2.1 hw3 (by decide +kernel) ⟨Nat.le_of_ble_eq_true rfl, Nat.le_of_ble_eq_true rfl⟩, hw4, trivial⟩ hK hP hD hS hA [2] [0, 1, 3, 4, 5, 6, 7] [0, 1, 7, 2, 3, 4, 5, 6] ⟨[(h2, .inr (1, [.ref labels2a, .ref guesses2a, .ref lengths2a, .ref words2a, .ref times2a, .ref totals2a, .ref sizes2a, .int rowCount2, .int addedUp2, .int addedDown2])), (labels2a, .inl (cI, 40, .inl labels2)), (lengths2a, .inl (cI, 40, .inl lengths2)), (words2a, .inl (cI, 240, .inl words2)), (times2a, .inl (cI, 32, .inl times2)), (totals2a, .inl (cI, 4, .inl totals2)), (sizes2a, .inl (cI, 4, .inl sizes2))], rfl, rfl, rfl, rfl, by decide, rfl, rfl⟩ rfl hl.1 rfl (Nat.le_of_ble_eq_true rfl) dX2_startAnew_5 ⟨Nat.zero_le _, Nat.zero_le _⟩ (fun H locs hP hD hS => ?_)
  refine lv_aload_n hx hb dX2_startAnew_8 rfl (lv_at hl 0 rfl) ?_
  obtain ⟨⟨times2_3, totals2_4, sizes2_5⟩, hc_6, h⟩ := bd_s h
  refine callTv (As := []) (rest := []) ⟨hx, hb, hml, hown, hts⟩ (c_X2_tally l D cI cJ h2 labels2a guesses2a lengths2a words2a times2a totals2a sizes2a labels2 guesses2_1 lengths2 words2 times2 totals2 sizes2 rowCount2 addedUp2 addedDown2 times2_3 totals2_4 sizes2_5 hc_6) (cwV 0 hts gX2_startAnew_X2_tally rfl rfl rfl (by decide +kernel) ⟨Nat.le_of_ble_eq_true rfl, Nat.le_of_ble_eq_true rfl⟩) hK hP hD hS hA 0 1 rfl rfl rfl rfl hl.1 rfl (Nat.le_of_ble_eq_true rfl) dX2_startAnew_9 ⟨Nat.zero_le _, Nat.zero_le _⟩ (fun H locs hP hD hS => ?_)
  cases h
  exact hret _ _ _ _ hP hD hS dX2_startAnew_12
def f_X2_open (i1 : Int32) (labels2 : Nat → Int32) (guesses2 : Nat → Int32) (lengths2 : Nat → Int32) (words2 : Nat → Int32) (times2 : Nat → Int32) (totals2 : Nat → Int32) (sizes2 : Nat → Int32) (rowCount2 : Int32) : Option (Int32 × (Nat → Int32) × (Nat → Int32) × (Nat → Int32) × (Nat → Int32) × (Nat → Int32) × Int32) :=
  nm (α := Int32) (rowCount2) fun x2_1 =>
  sI 40 labels2 x2_1 i1 fun labels2_3 =>
  nm (α := Int32) ((rowCount2 + 1)) fun rowCount2_4 =>
  Option.bind (f_X2_startAnew labels2_3 guesses2 lengths2 words2 times2 totals2 sizes2 rowCount2_4) fun (guesses2_5, times2_6, totals2_7, sizes2_8) =>
  some (x2_1, labels2_3, guesses2_5, times2_6, totals2_7, sizes2_8, rowCount2_4)
set_option maxHeartbeats 4000000 in
set_option maxRecDepth 100000 in
theorem c_X2_open (l : Launch) (D : va_G) (cI cJ : ClassId) (h2 labels2a guesses2a lengths2a words2a times2a totals2a sizes2a : Nat) (labels2 : Nat → Int32) (guesses2 : Nat → Int32) (lengths2 : Nat → Int32) (words2 : Nat → Int32) (times2 : Nat → Int32) (totals2 : Nat → Int32) (sizes2 : Nat → Int32) (rowCount2 : Int32) (addedUp2 : Int32) (addedDown2 : Int32) (i1 : Int32) (ret9 : Int32) (labels2z : Nat → Int32) (guesses2z : Nat → Int32) (times2z : Nat → Int32) (totals2z : Nat → Int32) (sizes2z : Nat → Int32) (rowCount2z : Int32) (h : f_X2_open i1 labels2 guesses2 lengths2 words2 times2 totals2 sizes2 rowCount2 = some (ret9, labels2z, guesses2z, times2z, totals2z, sizes2z, rowCount2z)) : CI l D cI cJ yX2_open wsX2_open 3 65 [.ref h2, .int i1] (w2 cI cJ h2 labels2a guesses2a lengths2a words2a times2a totals2a sizes2a labels2 guesses2 lengths2 words2 times2 totals2 sizes2 rowCount2 addedUp2 addedDown2) (w2 cI cJ h2 labels2a guesses2a lengths2a words2a times2a totals2a sizes2a labels2z guesses2z lengths2 words2 times2z totals2z sizes2z rowCount2z addedUp2 addedDown2) ret9 := by
  refine entI (cc := cX2_open) (maxL := 3) (by decide) rfl (Nat.le_of_ble_eq_true rfl) ?_
  intro p e s m args below meth c ls A Q X hret
  obtain ⟨hx, hb, hml, hts, hown, hK, hA, hP, hD, hS, hl, hnm⟩ := X
  have hown : s.vm.findClass RX2 = some m.cls := hown
  have hl : lv_has ls 3 [(0, .ref h2), (1, .int i1)] := hl
  have hw1 : (Cond.fieldLink RX2 33 "CountLearners$LabelledRows" "rowCount" "I").before args s = true := hts _ (by decide +kernel)
  have hinX2 : ∀ w ∈ wsX20, w ∈ wsX2_open := by decide +kernel
  have hw3 : (Cond.fieldLink RX2 11 "CountLearners$LabelledRows" "labels" "[I").before args s = true := hts _ (by decide +kernel)
  unfold f_X2_open at h
  refine lv_aload_n hx hb dX2_open_0 rfl (lv_at hl 0 rfl) ?_
  refine va_get (D := D) (ci := 1) (v := .int rowCount2) (C := RX2) (T := TX2) (N := 10) hx hb hts hinX2 hown hK.1 hP 0 rfl rfl 7 (by decide) hw1 (fun _ h9 => h9) rfl dX2_open_1 ?_
  refine lv_topi (fun x2_1 ex2_1 => ?_)
  have h := nm_s h x2_1 ex2_1
  refine lv_istore_n (lv' := [(2, .int x2_1), (0, .ref h2), (1, .int i1)]) hx hb dX2_open_4 rfl hl (by decide) rfl (fun ls hl => ?_)
  refine lv_aload_n hx hb dX2_open_5 rfl (lv_at hl 1 rfl) ?_
  refine va_get (D := D) (ci := 1) (v := .ref labels2a) (C := RX2) (T := TX2) (N := 10) hx hb hts hinX2 hown hK.1 hP 0 rfl rfl 0 (by decide) hw3 (fun _ h9 => h9) rfl dX2_open_6 ?_
  refine lv_iload_n hx hb dX2_open_9 rfl (lv_at hl 0 rfl) ?_
  refine lv_iload_n hx hb dX2_open_10 rfl (lv_at hl 2 rfl) ?_
  obtain ⟨hi_2, h⟩ := sI_s h
  refine va_iast hx hb hK.1 hP hD hS 1 0 rfl rfl hi_2 dX2_open_11 (fun H locs hP hD hS => ?_)
  obtain ⟨labels2_3, elabels2_3⟩ : ∃ z, z = upd labels2 (Int32.toNatClampNeg x2_1) i1 := ⟨_, rfl⟩
  have h := h labels2_3 elabels2_3
  rw [← elabels2_3] at hP hD
  have hP : va_P D vwK (w2 cI cJ h2 labels2a guesses2a lengths2a words2a times2a totals2a sizes2a labels2_3 guesses2 lengths2 words2 times2 totals2 sizes2 rowCount2 addedUp2 addedDown2) H := hP
  have hD : va_D A (w2 cI cJ h2 labels2a guesses2a lengths2a words2a times2a totals2a sizes2a labels2_3 guesses2 lengths2 words2 times2 totals2 sizes2 rowCount2 addedUp2 addedDown2) := hD
  refine lv_aload_n hx hb dX2_open_12 rfl (lv_at hl 1 rfl) ?_
  refine lv_dup hx hb dX2_open_13 rfl ?_
  refine va_get (D := D) (ci := 1) (v := .int rowCount2) (C := RX2) (T := TX2) (N := 10) hx hb hts hinX2 hown hK.1 hP 0 rfl rfl 7 (by decide) hw1 (fun _ h9 => h9) rfl dX2_open_14 ?_
  refine lv_iconst (v := 1) hx hb dX2_open_17 (by decide) ?_
  refine lv_iadd hx hb dX2_open_18 ?_
  refine lv_topi (fun rowCount2_4 erowCount2_4 => ?_)
  have h := nm_s h rowCount2_4 erowCount2_4
  refine va_put (D := D) (ci := 1) (v := .int rowCount2_4) (ty := .int) (C := RX2) (T := TX2) (N := 10) hx hb hts hinX2 tyX2 tyX2_ok nmX2 hown hK.1 hP hD hS 0 rfl rfl 7 (by decide) hw1 (fun _ h9 => h9) rfl (by decide +kernel) rfl rfl (Nat.le_of_ble_eq_true rfl) dX2_open_19 (fun H locs hP hD hS => ?_)
  have hP : va_P D vwK (w2 cI cJ h2 labels2a guesses2a lengths2a words2a times2a totals2a sizes2a labels2_3 guesses2 lengths2 words2 times2 totals2 sizes2 rowCount2_4 addedUp2 addedDown2) H := hP
  have hD : va_D A (w2 cI cJ h2 labels2a guesses2a lengths2a words2a times2a totals2a sizes2a labels2_3 guesses2 lengths2 words2 times2 totals2 sizes2 rowCount2_4 addedUp2 addedDown2) := hD
  refine lv_aload_n hx hb dX2_open_22 rfl (lv_at hl 1 rfl) ?_
  obtain ⟨⟨guesses2_5, times2_6, totals2_7, sizes2_8⟩, hc_9, h⟩ := bd_s h
  refine callTv (As := []) (rest := []) ⟨hx, hb, hml, hown, hts⟩ (c_X2_startAnew l D cI cJ h2 labels2a guesses2a lengths2a words2a times2a totals2a sizes2a labels2_3 guesses2 lengths2 words2 times2 totals2 sizes2 rowCount2_4 addedUp2 addedDown2 guesses2_5 times2_6 totals2_7 sizes2_8 hc_9) (cwV 0 hts gX2_open_X2_startAnew rfl rfl rfl (by decide +kernel) ⟨Nat.le_of_ble_eq_true rfl, Nat.le_of_ble_eq_true rfl⟩) hK hP hD hS hA 0 1 rfl rfl rfl rfl hl.1 rfl (Nat.le_of_ble_eq_true rfl) dX2_open_23 ⟨Nat.zero_le _, Nat.zero_le _⟩ (fun H locs hP hD hS => ?_)
  refine lv_iload_n hx hb dX2_open_26 rfl (lv_at hl 0 rfl) ?_
  cases h
  exact hret _ _ _ _ hP hD hS dX2_open_27
def f_X2_has (i1 : Int32) (rowCount2 : Int32) : Option (Int32) :=
  if i1 < 0 then
    some 0
  else
    if rowCount2 ≤ i1 then
      some 0
    else
      some 1
set_option maxHeartbeats 4000000 in
set_option maxRecDepth 100000 in
theorem c_X2_has (l : Launch) (D : va_G) (cI cJ : ClassId) (h2 labels2a guesses2a lengths2a words2a times2a totals2a sizes2a : Nat) (labels2 : Nat → Int32) (guesses2 : Nat → Int32) (lengths2 : Nat → Int32) (words2 : Nat → Int32) (times2 : Nat → Int32) (totals2 : Nat → Int32) (sizes2 : Nat → Int32) (rowCount2 : Int32) (addedUp2 : Int32) (addedDown2 : Int32) (i1 : Int32) (ret9 : Int32) (h : f_X2_has i1 rowCount2 = some ret9) : CI l D cI cJ yX2_has wsX2_has 0 0 [.ref h2, .int i1] (w2 cI cJ h2 labels2a guesses2a lengths2a words2a times2a totals2a sizes2a labels2 guesses2 lengths2 words2 times2 totals2 sizes2 rowCount2 addedUp2 addedDown2) (w2 cI cJ h2 labels2a guesses2a lengths2a words2a times2a totals2a sizes2a labels2 guesses2 lengths2 words2 times2 totals2 sizes2 rowCount2 addedUp2 addedDown2) ret9 := by
  refine entZ (cc := cX2_has) (maxL := 2) (by decide) rfl (Nat.le_of_ble_eq_true rfl) ?_
  intro p e s m args below meth c ls A Q X hret
  obtain ⟨hx, hb, hml, hts, hown, hK, hA, hP, hD, hS, hl, hnm⟩ := X
  have hown : s.vm.findClass RX2 = some m.cls := hown
  have hl : lv_has ls 2 [(0, .ref h2), (1, .int i1)] := hl
  have hw1 : (Cond.fieldLink RX2 33 "CountLearners$LabelledRows" "rowCount" "I").before args s = true := hts _ (by decide +kernel)
  have hinX2 : ∀ w ∈ wsX20, w ∈ wsX2_has := by decide +kernel
  unfold f_X2_has at h
  refine lv_iload_n hx hb dX2_has_0 rfl (lv_at hl 1 rfl) ?_
  refine lv_if_lt (tgt := 16) hx hb dX2_has_1 (by decide) (fun c_1 => ?_) (fun c_1 => ?_)
  · have h := it_p c_1 h
    refine lv_iconst (v := 0) hx hb dX2_has_16 (by decide) ?_
    cases h
    exact hret _ _ _ _ (Or.inl rfl) hP hD hS dX2_has_17
  · have h := it_n c_1 h
    refine lv_iload_n hx hb dX2_has_4 rfl (lv_at hl 1 rfl) ?_
    refine lv_aload_n hx hb dX2_has_5 rfl (lv_at hl 0 rfl) ?_
    refine va_get (D := D) (ci := 1) (v := .int rowCount2) (C := RX2) (T := TX2) (N := 10) hx hb hts hinX2 hown hK.1 hP 0 rfl rfl 7 (by decide) hw1 (fun _ h9 => h9) rfl dX2_has_6 ?_
    refine lv_icmp_ge (tgt := 16) hx hb dX2_has_9 (by decide) (fun c_2 => ?_) (fun c_2 => ?_)
    · have h := it_p c_2 h
      refine lv_iconst (v := 0) hx hb dX2_has_16 (by decide) ?_
      cases h
      exact hret _ _ _ _ (Or.inl rfl) hP hD hS dX2_has_17
    · have h := it_n c_2 h
      refine lv_iconst (v := 1) hx hb dX2_has_12 (by decide) ?_
      refine lv_goto (tgt := 17) hx hb dX2_has_13 (by decide) ?_
      cases h
      exact hret _ _ _ _ (Or.inr rfl) hP hD hS dX2_has_17
def f_X2_isFullRow (i1 : Int32) (lengths2 : Nat → Int32) : Option (Int32) :=
  gA 40 lengths2 i1 fun v_2 =>
  if v_2 < 6 then
    some 0
  else
    some 1
set_option maxHeartbeats 4000000 in
set_option maxRecDepth 100000 in
theorem c_X2_isFullRow (l : Launch) (D : va_G) (cI cJ : ClassId) (h2 labels2a guesses2a lengths2a words2a times2a totals2a sizes2a : Nat) (labels2 : Nat → Int32) (guesses2 : Nat → Int32) (lengths2 : Nat → Int32) (words2 : Nat → Int32) (times2 : Nat → Int32) (totals2 : Nat → Int32) (sizes2 : Nat → Int32) (rowCount2 : Int32) (addedUp2 : Int32) (addedDown2 : Int32) (i1 : Int32) (ret9 : Int32) (h : f_X2_isFullRow i1 lengths2 = some ret9) : CI l D cI cJ yX2_isFullRow wsX2_isFullRow 0 0 [.ref h2, .int i1] (w2 cI cJ h2 labels2a guesses2a lengths2a words2a times2a totals2a sizes2a labels2 guesses2 lengths2 words2 times2 totals2 sizes2 rowCount2 addedUp2 addedDown2) (w2 cI cJ h2 labels2a guesses2a lengths2a words2a times2a totals2a sizes2a labels2 guesses2 lengths2 words2 times2 totals2 sizes2 rowCount2 addedUp2 addedDown2) ret9 := by
  refine entZ (cc := cX2_isFullRow) (maxL := 2) (by decide) rfl (Nat.le_of_ble_eq_true rfl) ?_
  intro p e s m args below meth c ls A Q X hret
  obtain ⟨hx, hb, hml, hts, hown, hK, hA, hP, hD, hS, hl, hnm⟩ := X
  have hown : s.vm.findClass RX2 = some m.cls := hown
  have hl : lv_has ls 2 [(0, .ref h2), (1, .int i1)] := hl
  have hw1 : (Cond.fieldLink RX2 18 "CountLearners$LabelledRows" "lengths" "[I").before args s = true := hts _ (by decide +kernel)
  have hinX2 : ∀ w ∈ wsX20, w ∈ wsX2_isFullRow := by decide +kernel
  unfold f_X2_isFullRow at h
  refine lv_aload_n hx hb dX2_isFullRow_0 rfl (lv_at hl 0 rfl) ?_
  refine va_get (D := D) (ci := 1) (v := .ref lengths2a) (C := RX2) (T := TX2) (N := 10) hx hb hts hinX2 hown hK.1 hP 0 rfl rfl 2 (by decide) hw1 (fun _ h9 => h9) rfl dX2_isFullRow_1 ?_
  refine lv_iload_n hx hb dX2_isFullRow_4 rfl (lv_at hl 1 rfl) ?_
  obtain ⟨hi_1, h⟩ := gA_s h
  refine va_iald hx hb hK.1 hP 3 0 rfl rfl hi_1 dX2_isFullRow_5 ?_
  refine lv_topi (fun v_2 ev_2 => ?_)
  have h := h v_2 ev_2
  refine lv_bipush (v := 6) hx hb dX2_isFullRow_6 (by decide) ?_
  refine lv_icmp_lt (tgt := 15) hx hb dX2_isFullRow_8 (by decide) (fun c_3 => ?_) (fun c_3 => ?_)
  · have h := it_p c_3 h
    refine lv_iconst (v := 0) hx hb dX2_isFullRow_15 (by decide) ?_
    cases h
    exact hret _ _ _ _ (Or.inl rfl) hP hD hS dX2_isFullRow_16
  · have h := it_n c_3 h
    refine lv_iconst (v := 1) hx hb dX2_isFullRow_11 (by decide) ?_
    refine lv_goto (tgt := 16) hx hb dX2_isFullRow_12 (by decide) ?_
    cases h
    exact hret _ _ _ _ (Or.inr rfl) hP hD hS dX2_isFullRow_16
def f_X2_append (i1 : Int32) (i2 : Int32) (labels2 : Nat → Int32) (guesses2 : Nat → Int32) (lengths2 : Nat → Int32) (words2 : Nat → Int32) (times2 : Nat → Int32) (totals2 : Nat → Int32) (sizes2 : Nat → Int32) (rowCount2 : Int32) : Option (Int32 × (Nat → Int32) × (Nat → Int32) × (Nat → Int32) × (Nat → Int32) × (Nat → Int32) × (Nat → Int32)) :=
  gA 40 lengths2 i1 fun v_2 =>
  sI 240 words2 ((i1 * 6) + v_2) i2 fun words2_4 =>
  gA 40 lengths2 i1 fun v_6 =>
  sI 40 lengths2 i1 (v_6 + 1) fun lengths2_8 =>
  Option.bind (f_X2_startAnew labels2 guesses2 lengths2_8 words2_4 times2 totals2 sizes2 rowCount2) fun (guesses2_9, times2_10, totals2_11, sizes2_12) =>
  gA 40 lengths2_8 i1 fun v_15 =>
  some (v_15, guesses2_9, lengths2_8, words2_4, times2_10, totals2_11, sizes2_12)
set_option maxHeartbeats 4000000 in
set_option maxRecDepth 100000 in
theorem c_X2_append (l : Launch) (D : va_G) (cI cJ : ClassId) (h2 labels2a guesses2a lengths2a words2a times2a totals2a sizes2a : Nat) (labels2 : Nat → Int32) (guesses2 : Nat → Int32) (lengths2 : Nat → Int32) (words2 : Nat → Int32) (times2 : Nat → Int32) (totals2 : Nat → Int32) (sizes2 : Nat → Int32) (rowCount2 : Int32) (addedUp2 : Int32) (addedDown2 : Int32) (i1 : Int32) (i2 : Int32) (ret9 : Int32) (guesses2z : Nat → Int32) (lengths2z : Nat → Int32) (words2z : Nat → Int32) (times2z : Nat → Int32) (totals2z : Nat → Int32) (sizes2z : Nat → Int32) (h : f_X2_append i1 i2 labels2 guesses2 lengths2 words2 times2 totals2 sizes2 rowCount2 = some (ret9, guesses2z, lengths2z, words2z, times2z, totals2z, sizes2z)) : CI l D cI cJ yX2_append wsX2_append 3 65 [.ref h2, .int i1, .int i2] (w2 cI cJ h2 labels2a guesses2a lengths2a words2a times2a totals2a sizes2a labels2 guesses2 lengths2 words2 times2 totals2 sizes2 rowCount2 addedUp2 addedDown2) (w2 cI cJ h2 labels2a guesses2a lengths2a words2a times2a totals2a sizes2a labels2 guesses2z lengths2z words2z times2z totals2z sizes2z rowCount2 addedUp2 addedDown2) ret9 := by
  refine entI (cc := cX2_append) (maxL := 3) (by decide) rfl (Nat.le_of_ble_eq_true rfl) ?_
  intro p e s m args below meth c ls A Q X hret
  obtain ⟨hx, hb, hml, hts, hown, hK, hA, hP, hD, hS, hl, hnm⟩ := X
  have hown : s.vm.findClass RX2 = some m.cls := hown
  have hl : lv_has ls 3 [(0, .ref h2), (1, .int i1), (2, .int i2)] := hl
  have hw1 : (Cond.fieldLink RX2 21 "CountLearners$LabelledRows" "words" "[I").before args s = true := hts _ (by decide +kernel)
  have hinX2 : ∀ w ∈ wsX20, w ∈ wsX2_append := by decide +kernel
  have hw3 : (Cond.fieldLink RX2 18 "CountLearners$LabelledRows" "lengths" "[I").before args s = true := hts _ (by decide +kernel)
  unfold f_X2_append at h
  refine lv_aload_n hx hb dX2_append_0 rfl (lv_at hl 0 rfl) ?_
  refine va_get (D := D) (ci := 1) (v := .ref words2a) (C := RX2) (T := TX2) (N := 10) hx hb hts hinX2 hown hK.1 hP 0 rfl rfl 3 (by decide) hw1 (fun _ h9 => h9) rfl dX2_append_1 ?_
  refine lv_iload_n hx hb dX2_append_4 rfl (lv_at hl 1 rfl) ?_
  refine lv_bipush (v := 6) hx hb dX2_append_5 (by decide) ?_
  refine lv_imul hx hb dX2_append_7 ?_
  refine lv_aload_n hx hb dX2_append_8 rfl (lv_at hl 0 rfl) ?_
  refine va_get (D := D) (ci := 1) (v := .ref lengths2a) (C := RX2) (T := TX2) (N := 10) hx hb hts hinX2 hown hK.1 hP 0 rfl rfl 2 (by decide) hw3 (fun _ h9 => h9) rfl dX2_append_9 ?_
  refine lv_iload_n hx hb dX2_append_12 rfl (lv_at hl 1 rfl) ?_
  obtain ⟨hi_1, h⟩ := gA_s h
  refine va_iald hx hb hK.1 hP 3 0 rfl rfl hi_1 dX2_append_13 ?_
  refine lv_topi (fun v_2 ev_2 => ?_)
  have h := h v_2 ev_2
  refine lv_iadd hx hb dX2_append_14 ?_
  refine lv_iload_n hx hb dX2_append_15 rfl (lv_at hl 2 rfl) ?_
  obtain ⟨hi_3, h⟩ := sI_s h
  refine va_iast hx hb hK.1 hP hD hS 4 0 rfl rfl hi_3 dX2_append_16 (fun H locs hP hD hS => ?_)
  obtain ⟨words2_4, ewords2_4⟩ : ∃ z, z = upd words2 (Int32.toNatClampNeg ((i1 * 6) + v_2)) i2 := ⟨_, rfl⟩
  have h := h words2_4 ewords2_4
  rw [← ewords2_4] at hP hD
  have hP : va_P D vwK (w2 cI cJ h2 labels2a guesses2a lengths2a words2a times2a totals2a sizes2a labels2 guesses2 lengths2 words2_4 times2 totals2 sizes2 rowCount2 addedUp2 addedDown2) H := hP
  have hD : va_D A (w2 cI cJ h2 labels2a guesses2a lengths2a words2a times2a totals2a sizes2a labels2 guesses2 lengths2 words2_4 times2 totals2 sizes2 rowCount2 addedUp2 addedDown2) := hD
  refine lv_aload_n hx hb dX2_append_17 rfl (lv_at hl 0 rfl) ?_
  refine va_get (D := D) (ci := 1) (v := .ref lengths2a) (C := RX2) (T := TX2) (N := 10) hx hb hts hinX2 hown hK.1 hP 0 rfl rfl 2 (by decide) hw3 (fun _ h9 => h9) rfl dX2_append_18 ?_
  refine lv_iload_n hx hb dX2_append_21 rfl (lv_at hl 1 rfl) ?_
  refine lv_dup2_11 hx hb dX2_append_22 rfl rfl ?_
  obtain ⟨hi_5, h⟩ := gA_s h
  refine va_iald hx hb hK.1 hP 3 0 rfl rfl hi_5 dX2_append_23 ?_
  refine lv_topi (fun v_6 ev_6 => ?_)
  have h := h v_6 ev_6
  refine lv_iconst (v := 1) hx hb dX2_append_24 (by decide) ?_
  refine lv_iadd hx hb dX2_append_25 ?_
  obtain ⟨hi_7, h⟩ := sI_s h
  refine va_iast hx hb hK.1 hP hD hS 3 0 rfl rfl hi_7 dX2_append_26 (fun H locs hP hD hS => ?_)
  obtain ⟨lengths2_8, elengths2_8⟩ : ∃ z, z = upd lengths2 (Int32.toNatClampNeg i1) (v_6 + 1) := ⟨_, rfl⟩
  have h := h lengths2_8 elengths2_8
  rw [← elengths2_8] at hP hD
  have hP : va_P D vwK (w2 cI cJ h2 labels2a guesses2a lengths2a words2a times2a totals2a sizes2a labels2 guesses2 lengths2_8 words2_4 times2 totals2 sizes2 rowCount2 addedUp2 addedDown2) H := hP
  have hD : va_D A (w2 cI cJ h2 labels2a guesses2a lengths2a words2a times2a totals2a sizes2a labels2 guesses2 lengths2_8 words2_4 times2 totals2 sizes2 rowCount2 addedUp2 addedDown2) := hD
  refine lv_aload_n hx hb dX2_append_27 rfl (lv_at hl 0 rfl) ?_
  obtain ⟨⟨guesses2_9, times2_10, totals2_11, sizes2_12⟩, hc_13, h⟩ := bd_s h
  refine callTv (As := []) (rest := []) ⟨hx, hb, hml, hown, hts⟩ (c_X2_startAnew l D cI cJ h2 labels2a guesses2a lengths2a words2a times2a totals2a sizes2a labels2 guesses2 lengths2_8 words2_4 times2 totals2 sizes2 rowCount2 addedUp2 addedDown2 guesses2_9 times2_10 totals2_11 sizes2_12 hc_13) (cwV 0 hts gX2_append_X2_startAnew rfl rfl rfl (by decide +kernel) ⟨Nat.le_of_ble_eq_true rfl, Nat.le_of_ble_eq_true rfl⟩) hK hP hD hS hA 0 1 rfl rfl rfl rfl hl.1 rfl (Nat.le_of_ble_eq_true rfl) dX2_append_28 ⟨Nat.zero_le _, Nat.zero_le _⟩ (fun H locs hP hD hS => ?_)
  refine lv_aload_n hx hb dX2_append_31 rfl (lv_at hl 0 rfl) ?_
  refine va_get (D := D) (ci := 1) (v := .ref lengths2a) (C := RX2) (T := TX2) (N := 10) hx hb hts hinX2 hown hK.1 hP 0 rfl rfl 2 (by decide) hw3 (fun _ h9 => h9) rfl dX2_append_32 ?_
  refine lv_iload_n hx hb dX2_append_35 rfl (lv_at hl 1 rfl) ?_
  obtain ⟨hi_14, h⟩ := gA_s h
  refine va_iald hx hb hK.1 hP 3 0 rfl rfl hi_14 dX2_append_36 ?_
  refine lv_topi (fun v_15 ev_15 => ?_)
  have h := h v_15 ev_15
  cases h
  exact hret _ _ _ _ hP hD hS dX2_append_37
def f_X2_relabel (i1 : Int32) (i2 : Int32) (labels2 : Nat → Int32) (guesses2 : Nat → Int32) (lengths2 : Nat → Int32) (words2 : Nat → Int32) (times2 : Nat → Int32) (totals2 : Nat → Int32) (sizes2 : Nat → Int32) (rowCount2 : Int32) : Option (Int32 × (Nat → Int32) × (Nat → Int32) × (Nat → Int32) × (Nat → Int32) × (Nat → Int32)) :=
  gA 40 labels2 i1 fun v_2 =>
  nm (α := Int32) (v_2) fun x3_3 =>
  sI 40 labels2 i1 i2 fun labels2_5 =>
  Option.bind (f_X2_startAnew labels2_5 guesses2 lengths2 words2 times2 totals2 sizes2 rowCount2) fun (guesses2_6, times2_7, totals2_8, sizes2_9) =>
  some (x3_3, labels2_5, guesses2_6, times2_7, totals2_8, sizes2_9)
set_option maxHeartbeats 4000000 in
set_option maxRecDepth 100000 in
theorem c_X2_relabel (l : Launch) (D : va_G) (cI cJ : ClassId) (h2 labels2a guesses2a lengths2a words2a times2a totals2a sizes2a : Nat) (labels2 : Nat → Int32) (guesses2 : Nat → Int32) (lengths2 : Nat → Int32) (words2 : Nat → Int32) (times2 : Nat → Int32) (totals2 : Nat → Int32) (sizes2 : Nat → Int32) (rowCount2 : Int32) (addedUp2 : Int32) (addedDown2 : Int32) (i1 : Int32) (i2 : Int32) (ret9 : Int32) (labels2z : Nat → Int32) (guesses2z : Nat → Int32) (times2z : Nat → Int32) (totals2z : Nat → Int32) (sizes2z : Nat → Int32) (h : f_X2_relabel i1 i2 labels2 guesses2 lengths2 words2 times2 totals2 sizes2 rowCount2 = some (ret9, labels2z, guesses2z, times2z, totals2z, sizes2z)) : CI l D cI cJ yX2_relabel wsX2_relabel 3 65 [.ref h2, .int i1, .int i2] (w2 cI cJ h2 labels2a guesses2a lengths2a words2a times2a totals2a sizes2a labels2 guesses2 lengths2 words2 times2 totals2 sizes2 rowCount2 addedUp2 addedDown2) (w2 cI cJ h2 labels2a guesses2a lengths2a words2a times2a totals2a sizes2a labels2z guesses2z lengths2 words2 times2z totals2z sizes2z rowCount2 addedUp2 addedDown2) ret9 := by
  refine entI (cc := cX2_relabel) (maxL := 4) (by decide) rfl (Nat.le_of_ble_eq_true rfl) ?_
  intro p e s m args below meth c ls A Q X hret
  obtain ⟨hx, hb, hml, hts, hown, hK, hA, hP, hD, hS, hl, hnm⟩ := X
  have hown : s.vm.findClass RX2 = some m.cls := hown
  have hl : lv_has ls 4 [(0, .ref h2), (1, .int i1), (2, .int i2)] := hl
  have hw1 : (Cond.fieldLink RX2 11 "CountLearners$LabelledRows" "labels" "[I").before args s = true := hts _ (by decide +kernel)
  have hinX2 : ∀ w ∈ wsX20, w ∈ wsX2_relabel := by decide +kernel
  unfold f_X2_relabel at h
  refine lv_aload_n hx hb dX2_relabel_0 rfl (lv_at hl 0 rfl) ?_
  refine va_get (D := D) (ci := 1) (v := .ref labels2a) (C := RX2) (T := TX2) (N := 10) hx hb hts hinX2 hown hK.1 hP 0 rfl rfl 0 (by decide) hw1 (fun _ h9 => h9) rfl dX2_relabel_1 ?_
  refine lv_iload_n hx hb dX2_relabel_4 rfl (lv_at hl 1 rfl) ?_
  obtain ⟨hi_1, h⟩ := gA_s h
  refine va_iald hx hb hK.1 hP 1 0 rfl rfl hi_1 dX2_relabel_5 ?_
  refine lv_topi (fun v_2 ev_2 => ?_)
  have h := h v_2 ev_2
  refine lv_topi (fun x3_3 ex3_3 => ?_)
  have h := nm_s h x3_3 ex3_3
  refine lv_istore_n (lv' := [(3, .int x3_3), (0, .ref h2), (1, .int i1), (2, .int i2)]) hx hb dX2_relabel_6 rfl hl (by decide) rfl (fun ls hl => ?_)
  refine lv_aload_n hx hb dX2_relabel_7 rfl (lv_at hl 1 rfl) ?_
  refine va_get (D := D) (ci := 1) (v := .ref labels2a) (C := RX2) (T := TX2) (N := 10) hx hb hts hinX2 hown hK.1 hP 0 rfl rfl 0 (by decide) hw1 (fun _ h9 => h9) rfl dX2_relabel_8 ?_
  refine lv_iload_n hx hb dX2_relabel_11 rfl (lv_at hl 2 rfl) ?_
  refine lv_iload_n hx hb dX2_relabel_12 rfl (lv_at hl 3 rfl) ?_
  obtain ⟨hi_4, h⟩ := sI_s h
  refine va_iast hx hb hK.1 hP hD hS 1 0 rfl rfl hi_4 dX2_relabel_13 (fun H locs hP hD hS => ?_)
  obtain ⟨labels2_5, elabels2_5⟩ : ∃ z, z = upd labels2 (Int32.toNatClampNeg i1) i2 := ⟨_, rfl⟩
  have h := h labels2_5 elabels2_5
  rw [← elabels2_5] at hP hD
  have hP : va_P D vwK (w2 cI cJ h2 labels2a guesses2a lengths2a words2a times2a totals2a sizes2a labels2_5 guesses2 lengths2 words2 times2 totals2 sizes2 rowCount2 addedUp2 addedDown2) H := hP
  have hD : va_D A (w2 cI cJ h2 labels2a guesses2a lengths2a words2a times2a totals2a sizes2a labels2_5 guesses2 lengths2 words2 times2 totals2 sizes2 rowCount2 addedUp2 addedDown2) := hD
  refine lv_aload_n hx hb dX2_relabel_14 rfl (lv_at hl 1 rfl) ?_
  obtain ⟨⟨guesses2_6, times2_7, totals2_8, sizes2_9⟩, hc_10, h⟩ := bd_s h
  refine callTv (As := []) (rest := []) ⟨hx, hb, hml, hown, hts⟩ (c_X2_startAnew l D cI cJ h2 labels2a guesses2a lengths2a words2a times2a totals2a sizes2a labels2_5 guesses2 lengths2 words2 times2 totals2 sizes2 rowCount2 addedUp2 addedDown2 guesses2_6 times2_7 totals2_8 sizes2_9 hc_10) (cwV 0 hts gX2_relabel_X2_startAnew rfl rfl rfl (by decide +kernel) ⟨Nat.le_of_ble_eq_true rfl, Nat.le_of_ble_eq_true rfl⟩) hK hP hD hS hA 0 1 rfl rfl rfl rfl hl.1 rfl (Nat.le_of_ble_eq_true rfl) dX2_relabel_15 ⟨Nat.zero_le _, Nat.zero_le _⟩ (fun H locs hP hD hS => ?_)
  refine lv_iload_n hx hb dX2_relabel_18 rfl (lv_at hl 0 rfl) ?_
  cases h
  exact hret _ _ _ _ hP hD hS dX2_relabel_19
def f_X2_setAddition (i1 : Int32) (i2 : Int32) (labels2 : Nat → Int32) (guesses2 : Nat → Int32) (lengths2 : Nat → Int32) (words2 : Nat → Int32) (times2 : Nat → Int32) (totals2 : Nat → Int32) (sizes2 : Nat → Int32) (rowCount2 : Int32) (addedUp2 : Int32) (addedDown2 : Int32) : Option ((Nat → Int32) × (Nat → Int32) × (Nat → Int32) × (Nat → Int32) × Int32 × Int32) :=
  nm (α := Int32) (i1) fun addedUp2_1 =>
  nm (α := Int32) (i2) fun addedDown2_2 =>
  Option.bind (f_X2_startAnew labels2 guesses2 lengths2 words2 times2 totals2 sizes2 rowCount2) fun (guesses2_3, times2_4, totals2_5, sizes2_6) =>
  some (guesses2_3, times2_4, totals2_5, sizes2_6, addedUp2_1, addedDown2_2)
set_option maxHeartbeats 4000000 in
set_option maxRecDepth 100000 in
theorem c_X2_setAddition (l : Launch) (D : va_G) (cI cJ : ClassId) (h2 labels2a guesses2a lengths2a words2a times2a totals2a sizes2a : Nat) (labels2 : Nat → Int32) (guesses2 : Nat → Int32) (lengths2 : Nat → Int32) (words2 : Nat → Int32) (times2 : Nat → Int32) (totals2 : Nat → Int32) (sizes2 : Nat → Int32) (rowCount2 : Int32) (addedUp2 : Int32) (addedDown2 : Int32) (i1 : Int32) (i2 : Int32) (guesses2z : Nat → Int32) (times2z : Nat → Int32) (totals2z : Nat → Int32) (sizes2z : Nat → Int32) (addedUp2z : Int32) (addedDown2z : Int32) (h : f_X2_setAddition i1 i2 labels2 guesses2 lengths2 words2 times2 totals2 sizes2 rowCount2 addedUp2 addedDown2 = some (guesses2z, times2z, totals2z, sizes2z, addedUp2z, addedDown2z)) : CV l D cI cJ yX2_setAddition wsX2_setAddition 3 65 [.ref h2, .int i1, .int i2] (w2 cI cJ h2 labels2a guesses2a lengths2a words2a times2a totals2a sizes2a labels2 guesses2 lengths2 words2 times2 totals2 sizes2 rowCount2 addedUp2 addedDown2) (w2 cI cJ h2 labels2a guesses2a lengths2a words2a times2a totals2a sizes2a labels2 guesses2z lengths2 words2 times2z totals2z sizes2z rowCount2 addedUp2z addedDown2z) := by
  refine entV (cc := cX2_setAddition) (maxL := 3) (by decide) rfl (Nat.le_of_ble_eq_true rfl) ?_
  intro p e s m args below meth c ls A Q X hret
  obtain ⟨hx, hb, hml, hts, hown, hK, hA, hP, hD, hS, hl, hnm⟩ := X
  have hown : s.vm.findClass RX2 = some m.cls := hown
  have hl : lv_has ls 3 [(0, .ref h2), (1, .int i1), (2, .int i2)] := hl
  have hw1 : (Cond.fieldLink RX2 37 "CountLearners$LabelledRows" "addedUp" "I").before args s = true := hts _ (by decide +kernel)
  have hinX2 : ∀ w ∈ wsX20, w ∈ wsX2_setAddition := by decide +kernel
  have hw3 : (Cond.fieldLink RX2 40 "CountLearners$LabelledRows" "addedDown" "I").before args s = true := hts _ (by decide +kernel)
  unfold f_X2_setAddition at h
  refine lv_aload_n hx hb dX2_setAddition_0 rfl (lv_at hl 0 rfl) ?_
  refine lv_iload_n hx hb dX2_setAddition_1 rfl (lv_at hl 1 rfl) ?_
  refine lv_topi (fun addedUp2_1 eaddedUp2_1 => ?_)
  have h := nm_s h addedUp2_1 eaddedUp2_1
  refine va_put (D := D) (ci := 1) (v := .int addedUp2_1) (ty := .int) (C := RX2) (T := TX2) (N := 10) hx hb hts hinX2 tyX2 tyX2_ok nmX2 hown hK.1 hP hD hS 0 rfl rfl 8 (by decide) hw1 (fun _ h9 => h9) rfl (by decide +kernel) rfl rfl (Nat.le_of_ble_eq_true rfl) dX2_setAddition_2 (fun H locs hP hD hS => ?_)
  have hP : va_P D vwK (w2 cI cJ h2 labels2a guesses2a lengths2a words2a times2a totals2a sizes2a labels2 guesses2 lengths2 words2 times2 totals2 sizes2 rowCount2 addedUp2_1 addedDown2) H := hP
  have hD : va_D A (w2 cI cJ h2 labels2a guesses2a lengths2a words2a times2a totals2a sizes2a labels2 guesses2 lengths2 words2 times2 totals2 sizes2 rowCount2 addedUp2_1 addedDown2) := hD
  refine lv_aload_n hx hb dX2_setAddition_5 rfl (lv_at hl 0 rfl) ?_
  refine lv_iload_n hx hb dX2_setAddition_6 rfl (lv_at hl 2 rfl) ?_
  refine lv_topi (fun addedDown2_2 eaddedDown2_2 => ?_)
  have h := nm_s h addedDown2_2 eaddedDown2_2
  refine va_put (D := D) (ci := 1) (v := .int addedDown2_2) (ty := .int) (C := RX2) (T := TX2) (N := 10) hx hb hts hinX2 tyX2 tyX2_ok nmX2 hown hK.1 hP hD hS 0 rfl rfl 9 (by decide) hw3 (fun _ h9 => h9) rfl (by decide +kernel) rfl rfl (Nat.le_of_ble_eq_true rfl) dX2_setAddition_7 (fun H locs hP hD hS => ?_)
  have hP : va_P D vwK (w2 cI cJ h2 labels2a guesses2a lengths2a words2a times2a totals2a sizes2a labels2 guesses2 lengths2 words2 times2 totals2 sizes2 rowCount2 addedUp2_1 addedDown2_2) H := hP
  have hD : va_D A (w2 cI cJ h2 labels2a guesses2a lengths2a words2a times2a totals2a sizes2a labels2 guesses2 lengths2 words2 times2 totals2 sizes2 rowCount2 addedUp2_1 addedDown2_2) := hD
  refine lv_aload_n hx hb dX2_setAddition_10 rfl (lv_at hl 0 rfl) ?_
  obtain ⟨⟨guesses2_3, times2_4, totals2_5, sizes2_6⟩, hc_7, h⟩ := bd_s h
  refine callTv (As := []) (rest := []) ⟨hx, hb, hml, hown, hts⟩ (c_X2_startAnew l D cI cJ h2 labels2a guesses2a lengths2a words2a times2a totals2a sizes2a labels2 guesses2 lengths2 words2 times2 totals2 sizes2 rowCount2 addedUp2_1 addedDown2_2 guesses2_3 times2_4 totals2_5 sizes2_6 hc_7) (cwV 0 hts gX2_setAddition_X2_startAnew rfl rfl rfl (by decide +kernel) ⟨Nat.le_of_ble_eq_true rfl, Nat.le_of_ble_eq_true rfl⟩) hK hP hD hS hA 0 1 rfl rfl rfl rfl hl.1 rfl (Nat.le_of_ble_eq_true rfl) dX2_setAddition_11 ⟨Nat.zero_le _, Nat.zero_le _⟩ (fun H locs hP hD hS => ?_)
  cases h
  exact hret _ _ _ _ hP hD hS dX2_setAddition_14
def f_X2_timesIn (i1 : Int32) (i2 : Int32) (times2 : Nat → Int32) : Option (Int32) :=
  gA 32 times2 ((i1 * 8) + i2) fun v_2 =>
  some v_2
set_option maxHeartbeats 4000000 in
set_option maxRecDepth 100000 in
theorem c_X2_timesIn (l : Launch) (D : va_G) (cI cJ : ClassId) (h2 labels2a guesses2a lengths2a words2a times2a totals2a sizes2a : Nat) (labels2 : Nat → Int32) (guesses2 : Nat → Int32) (lengths2 : Nat → Int32) (words2 : Nat → Int32) (times2 : Nat → Int32) (totals2 : Nat → Int32) (sizes2 : Nat → Int32) (rowCount2 : Int32) (addedUp2 : Int32) (addedDown2 : Int32) (i1 : Int32) (i2 : Int32) (ret9 : Int32) (h : f_X2_timesIn i1 i2 times2 = some ret9) : CI l D cI cJ yX2_timesIn wsX2_timesIn 0 0 [.ref h2, .int i1, .int i2] (w2 cI cJ h2 labels2a guesses2a lengths2a words2a times2a totals2a sizes2a labels2 guesses2 lengths2 words2 times2 totals2 sizes2 rowCount2 addedUp2 addedDown2) (w2 cI cJ h2 labels2a guesses2a lengths2a words2a times2a totals2a sizes2a labels2 guesses2 lengths2 words2 times2 totals2 sizes2 rowCount2 addedUp2 addedDown2) ret9 := by
  refine entI (cc := cX2_timesIn) (maxL := 3) (by decide) rfl (Nat.le_of_ble_eq_true rfl) ?_
  intro p e s m args below meth c ls A Q X hret
  obtain ⟨hx, hb, hml, hts, hown, hK, hA, hP, hD, hS, hl, hnm⟩ := X
  have hown : s.vm.findClass RX2 = some m.cls := hown
  have hl : lv_has ls 3 [(0, .ref h2), (1, .int i1), (2, .int i2)] := hl
  have hw1 : (Cond.fieldLink RX2 24 "CountLearners$LabelledRows" "times" "[I").before args s = true := hts _ (by decide +kernel)
  have hinX2 : ∀ w ∈ wsX20, w ∈ wsX2_timesIn := by decide +kernel
  unfold f_X2_timesIn at h
  refine lv_aload_n hx hb dX2_timesIn_0 rfl (lv_at hl 0 rfl) ?_
  refine va_get (D := D) (ci := 1) (v := .ref times2a) (C := RX2) (T := TX2) (N := 10) hx hb hts hinX2 hown hK.1 hP 0 rfl rfl 4 (by decide) hw1 (fun _ h9 => h9) rfl dX2_timesIn_1 ?_
  refine lv_iload_n hx hb dX2_timesIn_4 rfl (lv_at hl 1 rfl) ?_
  refine lv_bipush (v := 8) hx hb dX2_timesIn_5 (by decide) ?_
  refine lv_imul hx hb dX2_timesIn_7 ?_
  refine lv_iload_n hx hb dX2_timesIn_8 rfl (lv_at hl 2 rfl) ?_
  refine lv_iadd hx hb dX2_timesIn_9 ?_
  obtain ⟨hi_1, h⟩ := gA_s h
  refine va_iald hx hb hK.1 hP 5 0 rfl rfl hi_1 dX2_timesIn_10 ?_
  refine lv_topi (fun v_2 ev_2 => ?_)
  have h := h v_2 ev_2
  cases h
  exact hret _ _ _ _ hP hD hS dX2_timesIn_11
def f_X2_wordsIn (i1 : Int32) (totals2 : Nat → Int32) : Option (Int32) :=
  gA 4 totals2 i1 fun v_2 =>
  some v_2
set_option maxHeartbeats 4000000 in
set_option maxRecDepth 100000 in
theorem c_X2_wordsIn (l : Launch) (D : va_G) (cI cJ : ClassId) (h2 labels2a guesses2a lengths2a words2a times2a totals2a sizes2a : Nat) (labels2 : Nat → Int32) (guesses2 : Nat → Int32) (lengths2 : Nat → Int32) (words2 : Nat → Int32) (times2 : Nat → Int32) (totals2 : Nat → Int32) (sizes2 : Nat → Int32) (rowCount2 : Int32) (addedUp2 : Int32) (addedDown2 : Int32) (i1 : Int32) (ret9 : Int32) (h : f_X2_wordsIn i1 totals2 = some ret9) : CI l D cI cJ yX2_wordsIn wsX2_wordsIn 0 0 [.ref h2, .int i1] (w2 cI cJ h2 labels2a guesses2a lengths2a words2a times2a totals2a sizes2a labels2 guesses2 lengths2 words2 times2 totals2 sizes2 rowCount2 addedUp2 addedDown2) (w2 cI cJ h2 labels2a guesses2a lengths2a words2a times2a totals2a sizes2a labels2 guesses2 lengths2 words2 times2 totals2 sizes2 rowCount2 addedUp2 addedDown2) ret9 := by
  refine entI (cc := cX2_wordsIn) (maxL := 2) (by decide) rfl (Nat.le_of_ble_eq_true rfl) ?_
  intro p e s m args below meth c ls A Q X hret
  obtain ⟨hx, hb, hml, hts, hown, hK, hA, hP, hD, hS, hl, hnm⟩ := X
  have hown : s.vm.findClass RX2 = some m.cls := hown
  have hl : lv_has ls 2 [(0, .ref h2), (1, .int i1)] := hl
  have hw1 : (Cond.fieldLink RX2 27 "CountLearners$LabelledRows" "totals" "[I").before args s = true := hts _ (by decide +kernel)
  have hinX2 : ∀ w ∈ wsX20, w ∈ wsX2_wordsIn := by decide +kernel
  unfold f_X2_wordsIn at h
  refine lv_aload_n hx hb dX2_wordsIn_0 rfl (lv_at hl 0 rfl) ?_
  refine va_get (D := D) (ci := 1) (v := .ref totals2a) (C := RX2) (T := TX2) (N := 10) hx hb hts hinX2 hown hK.1 hP 0 rfl rfl 5 (by decide) hw1 (fun _ h9 => h9) rfl dX2_wordsIn_1 ?_
  refine lv_iload_n hx hb dX2_wordsIn_4 rfl (lv_at hl 1 rfl) ?_
  obtain ⟨hi_1, h⟩ := gA_s h
  refine va_iald hx hb hK.1 hP 6 0 rfl rfl hi_1 dX2_wordsIn_5 ?_
  refine lv_topi (fun v_2 ev_2 => ?_)
  have h := h v_2 ev_2
  cases h
  exact hret _ _ _ _ hP hD hS dX2_wordsIn_6
def f_X2_rowsIn (i1 : Int32) (sizes2 : Nat → Int32) : Option (Int32) :=
  gA 4 sizes2 i1 fun v_2 =>
  some v_2
set_option maxHeartbeats 4000000 in
set_option maxRecDepth 100000 in
theorem c_X2_rowsIn (l : Launch) (D : va_G) (cI cJ : ClassId) (h2 labels2a guesses2a lengths2a words2a times2a totals2a sizes2a : Nat) (labels2 : Nat → Int32) (guesses2 : Nat → Int32) (lengths2 : Nat → Int32) (words2 : Nat → Int32) (times2 : Nat → Int32) (totals2 : Nat → Int32) (sizes2 : Nat → Int32) (rowCount2 : Int32) (addedUp2 : Int32) (addedDown2 : Int32) (i1 : Int32) (ret9 : Int32) (h : f_X2_rowsIn i1 sizes2 = some ret9) : CI l D cI cJ yX2_rowsIn wsX2_rowsIn 0 0 [.ref h2, .int i1] (w2 cI cJ h2 labels2a guesses2a lengths2a words2a times2a totals2a sizes2a labels2 guesses2 lengths2 words2 times2 totals2 sizes2 rowCount2 addedUp2 addedDown2) (w2 cI cJ h2 labels2a guesses2a lengths2a words2a times2a totals2a sizes2a labels2 guesses2 lengths2 words2 times2 totals2 sizes2 rowCount2 addedUp2 addedDown2) ret9 := by
  refine entI (cc := cX2_rowsIn) (maxL := 2) (by decide) rfl (Nat.le_of_ble_eq_true rfl) ?_
  intro p e s m args below meth c ls A Q X hret
  obtain ⟨hx, hb, hml, hts, hown, hK, hA, hP, hD, hS, hl, hnm⟩ := X
  have hown : s.vm.findClass RX2 = some m.cls := hown
  have hl : lv_has ls 2 [(0, .ref h2), (1, .int i1)] := hl
  have hw1 : (Cond.fieldLink RX2 30 "CountLearners$LabelledRows" "sizes" "[I").before args s = true := hts _ (by decide +kernel)
  have hinX2 : ∀ w ∈ wsX20, w ∈ wsX2_rowsIn := by decide +kernel
  unfold f_X2_rowsIn at h
  refine lv_aload_n hx hb dX2_rowsIn_0 rfl (lv_at hl 0 rfl) ?_
  refine va_get (D := D) (ci := 1) (v := .ref sizes2a) (C := RX2) (T := TX2) (N := 10) hx hb hts hinX2 hown hK.1 hP 0 rfl rfl 6 (by decide) hw1 (fun _ h9 => h9) rfl dX2_rowsIn_1 ?_
  refine lv_iload_n hx hb dX2_rowsIn_4 rfl (lv_at hl 1 rfl) ?_
  obtain ⟨hi_1, h⟩ := gA_s h
  refine va_iald hx hb hK.1 hP 7 0 rfl rfl hi_1 dX2_rowsIn_5 ?_
  refine lv_topi (fun v_2 ev_2 => ?_)
  have h := h v_2 ev_2
  cases h
  exact hret _ _ _ _ hP hD hS dX2_rowsIn_6
def f_X2_shareLower (i1 : Int32) (totals2 : Nat → Int32) (addedUp2 : Int32) (addedDown2 : Int32) : Option (Int64) :=
  gA 4 totals2 i1 fun v_2 =>
  some (((Int32.toInt64 v_2) * (Int32.toInt64 addedDown2)) + (8 * (Int32.toInt64 addedUp2)))
set_option maxHeartbeats 4000000 in
set_option maxRecDepth 100000 in
theorem c_X2_shareLower (l : Launch) (D : va_G) (cI cJ : ClassId) (h2 labels2a guesses2a lengths2a words2a times2a totals2a sizes2a : Nat) (labels2 : Nat → Int32) (guesses2 : Nat → Int32) (lengths2 : Nat → Int32) (words2 : Nat → Int32) (times2 : Nat → Int32) (totals2 : Nat → Int32) (sizes2 : Nat → Int32) (rowCount2 : Int32) (addedUp2 : Int32) (addedDown2 : Int32) (i1 : Int32) (ret9 : Int64) (h : f_X2_shareLower i1 totals2 addedUp2 addedDown2 = some ret9) : CL l D cI cJ yX2_shareLower wsX2_shareLower 0 0 [.ref h2, .int i1] (w2 cI cJ h2 labels2a guesses2a lengths2a words2a times2a totals2a sizes2a labels2 guesses2 lengths2 words2 times2 totals2 sizes2 rowCount2 addedUp2 addedDown2) (w2 cI cJ h2 labels2a guesses2a lengths2a words2a times2a totals2a sizes2a labels2 guesses2 lengths2 words2 times2 totals2 sizes2 rowCount2 addedUp2 addedDown2) ret9 := by
  refine entL (cc := cX2_shareLower) (maxL := 2) (by decide) rfl (Nat.le_of_ble_eq_true rfl) ?_
  intro p e s m args below meth c ls A Q X hret
  obtain ⟨hx, hb, hml, hts, hown, hK, hA, hP, hD, hS, hl, hnm⟩ := X
  have hown : s.vm.findClass RX2 = some m.cls := hown
  have hl : lv_has ls 2 [(0, .ref h2), (1, .int i1)] := hl
  have hw1 : (Cond.fieldLink RX2 27 "CountLearners$LabelledRows" "totals" "[I").before args s = true := hts _ (by decide +kernel)
  have hinX2 : ∀ w ∈ wsX20, w ∈ wsX2_shareLower := by decide +kernel
  have hw3 : (Cond.fieldLink RX2 40 "CountLearners$LabelledRows" "addedDown" "I").before args s = true := hts _ (by decide +kernel)
  have hw4 : (Cond.constantLong RX2 50 (8)).before args s = true := hts _ (by decide +kernel)
  have hw5 : (Cond.fieldLink RX2 37 "CountLearners$LabelledRows" "addedUp" "I").before args s = true := hts _ (by decide +kernel)
  unfold f_X2_shareLower at h
  refine lv_aload_n hx hb dX2_shareLower_0 rfl (lv_at hl 0 rfl) ?_
  refine va_get (D := D) (ci := 1) (v := .ref totals2a) (C := RX2) (T := TX2) (N := 10) hx hb hts hinX2 hown hK.1 hP 0 rfl rfl 5 (by decide) hw1 (fun _ h9 => h9) rfl dX2_shareLower_1 ?_
  refine lv_iload_n hx hb dX2_shareLower_4 rfl (lv_at hl 1 rfl) ?_
  obtain ⟨hi_1, h⟩ := gA_s h
  refine va_iald hx hb hK.1 hP 6 0 rfl rfl hi_1 dX2_shareLower_5 ?_
  refine lv_topi (fun v_2 ev_2 => ?_)
  have h := h v_2 ev_2
  refine lv_i2l (v := (Int32.toInt64 v_2)) hx hb dX2_shareLower_6 rfl ?_
  refine lv_aload_n hx hb dX2_shareLower_7 rfl (lv_at hl 0 rfl) ?_
  refine va_get (D := D) (ci := 1) (v := .int addedDown2) (C := RX2) (T := TX2) (N := 10) hx hb hts hinX2 hown hK.1 hP 0 rfl rfl 9 (by decide) hw3 (fun _ h9 => h9) rfl dX2_shareLower_8 ?_
  refine lv_i2l (v := (Int32.toInt64 addedDown2)) hx hb dX2_shareLower_11 rfl ?_
  refine lv_lmul hx hb dX2_shareLower_12 ?_
  refine lv_ldc2 (v := 8) hx hb hown hw4 dX2_shareLower_13 ?_
  refine lv_aload_n hx hb dX2_shareLower_16 rfl (lv_at hl 0 rfl) ?_
  refine va_get (D := D) (ci := 1) (v := .int addedUp2) (C := RX2) (T := TX2) (N := 10) hx hb hts hinX2 hown hK.1 hP 0 rfl rfl 8 (by decide) hw5 (fun _ h9 => h9) rfl dX2_shareLower_17 ?_
  refine lv_i2l (v := (Int32.toInt64 addedUp2)) hx hb dX2_shareLower_20 rfl ?_
  refine lv_lmul hx hb dX2_shareLower_21 ?_
  refine lv_ladd hx hb dX2_shareLower_22 ?_
  cases h
  exact hret _ _ _ _ hP hD hS dX2_shareLower_23
def f_X2_shareUpper (i1 : Int32) (i2 : Int32) (times2 : Nat → Int32) (addedUp2 : Int32) (addedDown2 : Int32) : Option (Int64) :=
  Option.bind (f_X2_timesIn i1 i2 times2) fun r_1 =>
  some (((Int32.toInt64 r_1) * (Int32.toInt64 addedDown2)) + (Int32.toInt64 addedUp2))
set_option maxHeartbeats 4000000 in
set_option maxRecDepth 100000 in
theorem c_X2_shareUpper (l : Launch) (D : va_G) (cI cJ : ClassId) (h2 labels2a guesses2a lengths2a words2a times2a totals2a sizes2a : Nat) (labels2 : Nat → Int32) (guesses2 : Nat → Int32) (lengths2 : Nat → Int32) (words2 : Nat → Int32) (times2 : Nat → Int32) (totals2 : Nat → Int32) (sizes2 : Nat → Int32) (rowCount2 : Int32) (addedUp2 : Int32) (addedDown2 : Int32) (i1 : Int32) (i2 : Int32) (ret9 : Int64) (h : f_X2_shareUpper i1 i2 times2 addedUp2 addedDown2 = some ret9) : CL l D cI cJ yX2_shareUpper wsX2_shareUpper 1 22 [.ref h2, .int i1, .int i2] (w2 cI cJ h2 labels2a guesses2a lengths2a words2a times2a totals2a sizes2a labels2 guesses2 lengths2 words2 times2 totals2 sizes2 rowCount2 addedUp2 addedDown2) (w2 cI cJ h2 labels2a guesses2a lengths2a words2a times2a totals2a sizes2a labels2 guesses2 lengths2 words2 times2 totals2 sizes2 rowCount2 addedUp2 addedDown2) ret9 := by
  refine entL (cc := cX2_shareUpper) (maxL := 3) (by decide) rfl (Nat.le_of_ble_eq_true rfl) ?_
  intro p e s m args below meth c ls A Q X hret
  obtain ⟨hx, hb, hml, hts, hown, hK, hA, hP, hD, hS, hl, hnm⟩ := X
  have hown : s.vm.findClass RX2 = some m.cls := hown
  have hl : lv_has ls 3 [(0, .ref h2), (1, .int i1), (2, .int i2)] := hl
  have hw1 : (Cond.fieldLink RX2 40 "CountLearners$LabelledRows" "addedDown" "I").before args s = true := hts _ (by decide +kernel)
  have hinX2 : ∀ w ∈ wsX20, w ∈ wsX2_shareUpper := by decide +kernel
  have hw3 : (Cond.fieldLink RX2 37 "CountLearners$LabelledRows" "addedUp" "I").before args s = true := hts _ (by decide +kernel)
  unfold f_X2_shareUpper at h
  refine lv_aload_n hx hb dX2_shareUpper_0 rfl (lv_at hl 0 rfl) ?_
  refine lv_iload_n hx hb dX2_shareUpper_1 rfl (lv_at hl 1 rfl) ?_
  refine lv_iload_n hx hb dX2_shareUpper_2 rfl (lv_at hl 2 rfl) ?_
  obtain ⟨r_1, hc_2, h⟩ := bd_s h
  refine callTi (As := [.int i1, .int i2]) (rest := []) ⟨hx, hb, hml, hown, hts⟩ (c_X2_timesIn l D cI cJ h2 labels2a guesses2a lengths2a words2a times2a totals2a sizes2a labels2 guesses2 lengths2 words2 times2 totals2 sizes2 rowCount2 addedUp2 addedDown2 i1 i2 r_1 hc_2) (cwV 2 hts gX2_shareUpper_X2_timesIn rfl rfl rfl (by decide +kernel) ⟨Nat.le_of_ble_eq_true rfl, Nat.le_of_ble_eq_true rfl⟩) hK hP hD hS hA 0 1 rfl rfl rfl rfl hl.1 rfl (Nat.le_of_ble_eq_true rfl) dX2_shareUpper_3 ⟨Nat.zero_le _, Nat.zero_le _⟩ (fun H locs hP hD hS => ?_)
  refine lv_i2l (v := (Int32.toInt64 r_1)) hx hb dX2_shareUpper_6 rfl ?_
  refine lv_aload_n hx hb dX2_shareUpper_7 rfl (lv_at hl 0 rfl) ?_
  refine va_get (D := D) (ci := 1) (v := .int addedDown2) (C := RX2) (T := TX2) (N := 10) hx hb hts hinX2 hown hK.1 hP 0 rfl rfl 9 (by decide) hw1 (fun _ h9 => h9) rfl dX2_shareUpper_8 ?_
  refine lv_i2l (v := (Int32.toInt64 addedDown2)) hx hb dX2_shareUpper_11 rfl ?_
  refine lv_lmul hx hb dX2_shareUpper_12 ?_
  refine lv_aload_n hx hb dX2_shareUpper_13 rfl (lv_at hl 0 rfl) ?_
  refine va_get (D := D) (ci := 1) (v := .int addedUp2) (C := RX2) (T := TX2) (N := 10) hx hb hts hinX2 hown hK.1 hP 0 rfl rfl 8 (by decide) hw3 (fun _ h9 => h9) rfl dX2_shareUpper_14 ?_
  refine lv_i2l (v := (Int32.toInt64 addedUp2)) hx hb dX2_shareUpper_17 rfl ?_
  refine lv_ladd hx hb dX2_shareUpper_18 ?_
  cases h
  exact hret _ _ _ _ hP hD hS dX2_shareUpper_19
def f_X2_weightUpper_L11 (i1 : Int32) (i2 : Int32) (lengths2 : Nat → Int32) (words2 : Nat → Int32) (times2 : Nat → Int32) (addedUp2 : Int32) (addedDown2 : Int32) : Nat → Int32 → Int64 → Option (Int32 × Int64)
  | 0, _, _ => none
  | n + 1, y5_5, k3_6 =>
  gA 40 lengths2 i1 fun v_10 =>
  if v_10 ≤ y5_5 then
    some (y5_5, k3_6)
  else
    gA 240 words2 ((i1 * 6) + y5_5) fun v_13 =>
    Option.bind (f_X2_shareUpper i2 v_13 times2 addedUp2 addedDown2) fun rj_14 =>
    nm (α := Int64) ((k3_6 * rj_14)) fun j3_16 =>
    nm (α := Int32) (y5_5 + 1) fun x5_17 =>
    f_X2_weightUpper_L11 i1 i2 lengths2 words2 times2 addedUp2 addedDown2 n x5_17 j3_16
def f_X2_weightUpper (i1 : Int32) (i2 : Int32) (lengths2 : Nat → Int32) (words2 : Nat → Int32) (times2 : Nat → Int32) (sizes2 : Nat → Int32) (addedUp2 : Int32) (addedDown2 : Int32) : Option (Int64) :=
  gA 4 sizes2 i2 fun v_2 =>
  nm (α := Int64) ((Int32.toInt64 v_2)) fun j3_3 =>
  nm (α := Int32) (0) fun x5_4 =>
  Option.bind (f_X2_weightUpper_L11 i1 i2 lengths2 words2 times2 addedUp2 addedDown2 FU x5_4 j3_3) fun (z5_18, z3_19) =>
  some z3_19
set_option maxHeartbeats 4000000 in
set_option maxRecDepth 100000 in
theorem c_X2_weightUpper (l : Launch) (D : va_G) (cI cJ : ClassId) (h2 labels2a guesses2a lengths2a words2a times2a totals2a sizes2a : Nat) (labels2 : Nat → Int32) (guesses2 : Nat → Int32) (lengths2 : Nat → Int32) (words2 : Nat → Int32) (times2 : Nat → Int32) (totals2 : Nat → Int32) (sizes2 : Nat → Int32) (rowCount2 : Int32) (addedUp2 : Int32) (addedDown2 : Int32) (i1 : Int32) (i2 : Int32) (ret9 : Int64) (h : f_X2_weightUpper i1 i2 lengths2 words2 times2 sizes2 addedUp2 addedDown2 = some ret9) : CL l D cI cJ yX2_weightUpper wsX2_weightUpper 2 44 [.ref h2, .int i1, .int i2] (w2 cI cJ h2 labels2a guesses2a lengths2a words2a times2a totals2a sizes2a labels2 guesses2 lengths2 words2 times2 totals2 sizes2 rowCount2 addedUp2 addedDown2) (w2 cI cJ h2 labels2a guesses2a lengths2a words2a times2a totals2a sizes2a labels2 guesses2 lengths2 words2 times2 totals2 sizes2 rowCount2 addedUp2 addedDown2) ret9 := by
  refine entL (cc := cX2_weightUpper) (maxL := 6) (by decide) rfl (Nat.le_of_ble_eq_true rfl) ?_
  intro p e s m args below meth c ls A Q X hret
  obtain ⟨hx, hb, hml, hts, hown, hK, hA, hP, hD, hS, hl, hnm⟩ := X
  have hown : s.vm.findClass RX2 = some m.cls := hown
  have hl : lv_has ls 6 [(0, .ref h2), (1, .int i1), (2, .int i2)] := hl
  have hw1 : (Cond.fieldLink RX2 30 "CountLearners$LabelledRows" "sizes" "[I").before args s = true := hts _ (by decide +kernel)
  have hinX2 : ∀ w ∈ wsX20, w ∈ wsX2_weightUpper := by decide +kernel
  have hw3 : (Cond.fieldLink RX2 18 "CountLearners$LabelledRows" "lengths" "[I").before args s = true := hts _ (by decide +kernel)
  have hw4 : (Cond.fieldLink RX2 21 "CountLearners$LabelledRows" "words" "[I").before args s = true := hts _ (by decide +kernel)
  unfold f_X2_weightUpper at h
  refine lv_aload_n hx hb dX2_weightUpper_0 rfl (lv_at hl 0 rfl) ?_
  refine va_get (D := D) (ci := 1) (v := .ref sizes2a) (C := RX2) (T := TX2) (N := 10) hx hb hts hinX2 hown hK.1 hP 0 rfl rfl 6 (by decide) hw1 (fun _ h9 => h9) rfl dX2_weightUpper_1 ?_
  refine lv_iload_n hx hb dX2_weightUpper_4 rfl (lv_at hl 2 rfl) ?_
  obtain ⟨hi_1, h⟩ := gA_s h
  refine va_iald hx hb hK.1 hP 7 0 rfl rfl hi_1 dX2_weightUpper_5 ?_
  refine lv_topi (fun v_2 ev_2 => ?_)
  have h := h v_2 ev_2
  refine lv_i2l (v := (Int32.toInt64 v_2)) hx hb dX2_weightUpper_6 rfl ?_
  refine lv_topl (fun j3_3 ej3_3 => ?_)
  have h := nm_s h j3_3 ej3_3
  refine lv_lstore_n (lv' := [(3, .long j3_3), (0, .ref h2), (1, .int i1), (2, .int i2)]) hx hb dX2_weightUpper_7 rfl hl (by decide) rfl (fun ls hl => ?_)
  refine lv_iconst (v := 0) hx hb dX2_weightUpper_8 (by decide) ?_
  refine lv_topi (fun x5_4 ex5_4 => ?_)
  have h := nm_s h x5_4 ex5_4
  refine lv_istore (lv' := [(5, .int x5_4), (3, .long j3_3), (0, .ref h2), (1, .int i1), (2, .int i2)]) hx hb dX2_weightUpper_9 hl (by decide) rfl (fun ls hl => ?_)
  have L11 : ∀ (n : Nat) (y5_5 : Int32) (k3_6 : Int64) (z5_7 : Int32) (z3_8 : Int64), f_X2_weightUpper_L11 i1 i2 lengths2 words2 times2 addedUp2 addedDown2 n y5_5 k3_6 = some (z5_7, z3_8) → ∀ (H : Heap) (locs : List Loc) (ls : Array Slot), va_P D vwK (w2 cI cJ h2 labels2a guesses2a lengths2a words2a times2a totals2a sizes2a labels2 guesses2 lengths2 words2 times2 totals2 sizes2 rowCount2 addedUp2 addedDown2) H → va_D A (w2 cI cJ h2 labels2a guesses2a lengths2a words2a times2a totals2a sizes2a labels2 guesses2 lengths2 words2 times2 totals2 sizes2 rowCount2 addedUp2 addedDown2) → va_S A s.heap H locs → lv_has ls 6 [(5, .int y5_5), (3, .long k3_6), (0, .ref h2), (1, .int i1), (2, .int i2)] → (∀ (H : Heap) (locs : List Loc) (ls : Array Slot), va_P D vwK (w2 cI cJ h2 labels2a guesses2a lengths2a words2a times2a totals2a sizes2a labels2 guesses2 lengths2 words2 times2 totals2 sizes2 rowCount2 addedUp2 addedDown2) H → va_D A (w2 cI cJ h2 labels2a guesses2a lengths2a words2a times2a totals2a sizes2a labels2 guesses2 lengths2 words2 times2 totals2 sizes2 rowCount2 addedUp2 addedDown2) → va_S A s.heap H locs → lv_has ls 6 [(3, .long z3_8)] → W p l e (rmOf 2 44) s m args below meth c H locs 0 0 Q (F0 m 48 ls [])) → W p l e (rmOf 2 44) s m args below meth c H locs 0 0 Q (F0 m 11 ls []) := by
    intro n
    induction n with
    | zero => intro y5_5 k3_6 z5_7 z3_8 h; rw [f_X2_weightUpper_L11.eq_1] at h; cases h
    | succ n ih =>
      intro y5_5 k3_6 z5_7 z3_8 h H locs ls hP hD hS hl K
      rw [f_X2_weightUpper_L11.eq_2] at h
      refine lv_iload hx hb dX2_weightUpper_11 (lv_at hl 0 rfl) ?_
      refine lv_aload_n hx hb dX2_weightUpper_13 rfl (lv_at hl 2 rfl) ?_
      refine va_get (D := D) (ci := 1) (v := .ref lengths2a) (C := RX2) (T := TX2) (N := 10) hx hb hts hinX2 hown hK.1 hP 0 rfl rfl 2 (by decide) hw3 (fun _ h9 => h9) rfl dX2_weightUpper_14 ?_
      refine lv_iload_n hx hb dX2_weightUpper_17 rfl (lv_at hl 3 rfl) ?_
      obtain ⟨hi_9, h⟩ := gA_s h
      refine va_iald hx hb hK.1 hP 3 0 rfl rfl hi_9 dX2_weightUpper_18 ?_
      refine lv_topi (fun v_10 ev_10 => ?_)
      have h := h v_10 ev_10
      refine lv_icmp_ge (tgt := 48) hx hb dX2_weightUpper_19 (by decide) (fun c_11 => ?_) (fun c_11 => ?_)
      · have h := it_p c_11 h
        cases h
        exact K _ _ _ hP hD hS (lv_sub hl [1] rfl)
      · have h := it_n c_11 h
        refine lv_lload_n hx hb dX2_weightUpper_22 rfl (lv_at hl 1 rfl) ?_
        refine lv_aload_n hx hb dX2_weightUpper_23 rfl (lv_at hl 2 rfl) ?_
        refine lv_iload_n hx hb dX2_weightUpper_24 rfl (lv_at hl 4 rfl) ?_
        refine lv_aload_n hx hb dX2_weightUpper_25 rfl (lv_at hl 2 rfl) ?_
        refine va_get (D := D) (ci := 1) (v := .ref words2a) (C := RX2) (T := TX2) (N := 10) hx hb hts hinX2 hown hK.1 hP 0 rfl rfl 3 (by decide) hw4 (fun _ h9 => h9) rfl dX2_weightUpper_26 ?_
        refine lv_iload_n hx hb dX2_weightUpper_29 rfl (lv_at hl 3 rfl) ?_
        refine lv_bipush (v := 6) hx hb dX2_weightUpper_30 (by decide) ?_
        refine lv_imul hx hb dX2_weightUpper_32 ?_
        refine lv_iload hx hb dX2_weightUpper_33 (lv_at hl 0 rfl) ?_
        refine lv_iadd hx hb dX2_weightUpper_35 ?_
        obtain ⟨hi_12, h⟩ := gA_s h
        refine va_iald hx hb hK.1 hP 4 0 rfl rfl hi_12 dX2_weightUpper_36 ?_
        refine lv_topi (fun v_13 ev_13 => ?_)
        have h := h v_13 ev_13
        obtain ⟨rj_14, hc_15, h⟩ := bd_s h
        refine callTl (As := [.int i2, .int v_13]) (rest := [.long k3_6]) ⟨hx, hb, hml, hown, hts⟩ (c_X2_shareUpper l D cI cJ h2 labels2a guesses2a lengths2a words2a times2a totals2a sizes2a labels2 guesses2 lengths2 words2 times2 totals2 sizes2 rowCount2 addedUp2 addedDown2 i2 v_13 rj_14 hc_15) (cwV 2 hts gX2_weightUpper_X2_shareUpper rfl rfl rfl (by decide +kernel) ⟨Nat.le_of_ble_eq_true rfl, Nat.le_of_ble_eq_true rfl⟩) hK hP hD hS hA 0 1 rfl rfl rfl rfl hl.1 rfl (Nat.le_of_ble_eq_true rfl) dX2_weightUpper_37 ⟨Nat.zero_le _, Nat.zero_le _⟩ (fun H locs hP hD hS => ?_)
        refine lv_lmul hx hb dX2_weightUpper_40 ?_
        refine lv_topl (fun j3_16 ej3_16 => ?_)
        have h := nm_s h j3_16 ej3_16
        refine lv_lstore_n (lv' := [(3, .long j3_16), (5, .int y5_5), (0, .ref h2), (1, .int i1), (2, .int i2)]) hx hb dX2_weightUpper_41 rfl hl (by decide) rfl (fun ls hl => ?_)
        obtain ⟨x5_17, ex5_17⟩ : ∃ z : Int32, z = y5_5 + 1 := ⟨_, rfl⟩
        have h := nm_s h x5_17 ex5_17
        refine lv_iinc (v := x5_17) (lv' := [(5, .int x5_17), (3, .long j3_16), (0, .ref h2), (1, .int i1), (2, .int i2)]) hx hb dX2_weightUpper_42 hl (k := 1) rfl (by rw [ex5_17]; rfl) (by decide) rfl (fun ls hl => ?_)
        refine lv_goto (tgt := 11) hx hb dX2_weightUpper_45 (by decide) ?_
        exact ih _ _ _ _ h _ _ _ hP hD hS (lv_sub hl [0, 1, 2, 3, 4] rfl) K
  obtain ⟨⟨z5_18, z3_19⟩, hl_20, h⟩ := bd_s h
  refine L11 FU x5_4 j3_3 _ _ hl_20 _ _ _ hP hD hS (lv_sub hl [0, 1, 2, 3, 4] rfl) (fun H locs ls hP hD hS hl => ?_)
  refine lv_lload_n hx hb dX2_weightUpper_48 rfl (lv_at hl 0 rfl) ?_
  cases h
  exact hret _ _ _ _ hP hD hS dX2_weightUpper_49
def f_X2_weightLower_L5 (i1 : Int32) (i2 : Int32) (lengths2 : Nat → Int32) (totals2 : Nat → Int32) (addedUp2 : Int32) (addedDown2 : Int32) : Nat → Int32 → Int64 → Option (Int32 × Int64)
  | 0, _, _ => none
  | n + 1, y5_3, k3_4 =>
  gA 40 lengths2 i1 fun v_8 =>
  if v_8 ≤ y5_3 then
    some (y5_3, k3_4)
  else
    Option.bind (f_X2_shareLower i2 totals2 addedUp2 addedDown2) fun rj_10 =>
    nm (α := Int64) ((k3_4 * rj_10)) fun j3_12 =>
    nm (α := Int32) (y5_3 + 1) fun x5_13 =>
    f_X2_weightLower_L5 i1 i2 lengths2 totals2 addedUp2 addedDown2 n x5_13 j3_12
def f_X2_weightLower (i1 : Int32) (i2 : Int32) (lengths2 : Nat → Int32) (totals2 : Nat → Int32) (addedUp2 : Int32) (addedDown2 : Int32) : Option (Int64) :=
  nm (α := Int64) (1) fun j3_1 =>
  nm (α := Int32) (0) fun x5_2 =>
  Option.bind (f_X2_weightLower_L5 i1 i2 lengths2 totals2 addedUp2 addedDown2 FU x5_2 j3_1) fun (z5_14, z3_15) =>
  some z3_15
set_option maxHeartbeats 4000000 in
set_option maxRecDepth 100000 in
theorem c_X2_weightLower (l : Launch) (D : va_G) (cI cJ : ClassId) (h2 labels2a guesses2a lengths2a words2a times2a totals2a sizes2a : Nat) (labels2 : Nat → Int32) (guesses2 : Nat → Int32) (lengths2 : Nat → Int32) (words2 : Nat → Int32) (times2 : Nat → Int32) (totals2 : Nat → Int32) (sizes2 : Nat → Int32) (rowCount2 : Int32) (addedUp2 : Int32) (addedDown2 : Int32) (i1 : Int32) (i2 : Int32) (ret9 : Int64) (h : f_X2_weightLower i1 i2 lengths2 totals2 addedUp2 addedDown2 = some ret9) : CL l D cI cJ yX2_weightLower wsX2_weightLower 1 21 [.ref h2, .int i1, .int i2] (w2 cI cJ h2 labels2a guesses2a lengths2a words2a times2a totals2a sizes2a labels2 guesses2 lengths2 words2 times2 totals2 sizes2 rowCount2 addedUp2 addedDown2) (w2 cI cJ h2 labels2a guesses2a lengths2a words2a times2a totals2a sizes2a labels2 guesses2 lengths2 words2 times2 totals2 sizes2 rowCount2 addedUp2 addedDown2) ret9 := by
  refine entL (cc := cX2_weightLower) (maxL := 6) (by decide) rfl (Nat.le_of_ble_eq_true rfl) ?_
  intro p e s m args below meth c ls A Q X hret
  obtain ⟨hx, hb, hml, hts, hown, hK, hA, hP, hD, hS, hl, hnm⟩ := X
  have hown : s.vm.findClass RX2 = some m.cls := hown
  have hl : lv_has ls 6 [(0, .ref h2), (1, .int i1), (2, .int i2)] := hl
  have hw1 : (Cond.fieldLink RX2 18 "CountLearners$LabelledRows" "lengths" "[I").before args s = true := hts _ (by decide +kernel)
  have hinX2 : ∀ w ∈ wsX20, w ∈ wsX2_weightLower := by decide +kernel
  unfold f_X2_weightLower at h
  refine lv_lconst (v := 1) hx hb dX2_weightLower_0 (by decide) ?_
  refine lv_topl (fun j3_1 ej3_1 => ?_)
  have h := nm_s h j3_1 ej3_1
  refine lv_lstore_n (lv' := [(3, .long j3_1), (0, .ref h2), (1, .int i1), (2, .int i2)]) hx hb dX2_weightLower_1 rfl hl (by decide) rfl (fun ls hl => ?_)
  refine lv_iconst (v := 0) hx hb dX2_weightLower_2 (by decide) ?_
  refine lv_topi (fun x5_2 ex5_2 => ?_)
  have h := nm_s h x5_2 ex5_2
  refine lv_istore (lv' := [(5, .int x5_2), (3, .long j3_1), (0, .ref h2), (1, .int i1), (2, .int i2)]) hx hb dX2_weightLower_3 hl (by decide) rfl (fun ls hl => ?_)
  have L5 : ∀ (n : Nat) (y5_3 : Int32) (k3_4 : Int64) (z5_5 : Int32) (z3_6 : Int64), f_X2_weightLower_L5 i1 i2 lengths2 totals2 addedUp2 addedDown2 n y5_3 k3_4 = some (z5_5, z3_6) → ∀ (H : Heap) (locs : List Loc) (ls : Array Slot), va_P D vwK (w2 cI cJ h2 labels2a guesses2a lengths2a words2a times2a totals2a sizes2a labels2 guesses2 lengths2 words2 times2 totals2 sizes2 rowCount2 addedUp2 addedDown2) H → va_D A (w2 cI cJ h2 labels2a guesses2a lengths2a words2a times2a totals2a sizes2a labels2 guesses2 lengths2 words2 times2 totals2 sizes2 rowCount2 addedUp2 addedDown2) → va_S A s.heap H locs → lv_has ls 6 [(5, .int y5_3), (3, .long k3_4), (0, .ref h2), (1, .int i1), (2, .int i2)] → (∀ (H : Heap) (locs : List Loc) (ls : Array Slot), va_P D vwK (w2 cI cJ h2 labels2a guesses2a lengths2a words2a times2a totals2a sizes2a labels2 guesses2 lengths2 words2 times2 totals2 sizes2 rowCount2 addedUp2 addedDown2) H → va_D A (w2 cI cJ h2 labels2a guesses2a lengths2a words2a times2a totals2a sizes2a labels2 guesses2 lengths2 words2 times2 totals2 sizes2 rowCount2 addedUp2 addedDown2) → va_S A s.heap H locs → lv_has ls 6 [(3, .long z3_6)] → W p l e (rmOf 1 21) s m args below meth c H locs 0 0 Q (F0 m 30 ls [])) → W p l e (rmOf 1 21) s m args below meth c H locs 0 0 Q (F0 m 5 ls []) := by
    intro n
    induction n with
    | zero => intro y5_3 k3_4 z5_5 z3_6 h; rw [f_X2_weightLower_L5.eq_1] at h; cases h
    | succ n ih =>
      intro y5_3 k3_4 z5_5 z3_6 h H locs ls hP hD hS hl K
      rw [f_X2_weightLower_L5.eq_2] at h
      refine lv_iload hx hb dX2_weightLower_5 (lv_at hl 0 rfl) ?_
      refine lv_aload_n hx hb dX2_weightLower_7 rfl (lv_at hl 2 rfl) ?_
      refine va_get (D := D) (ci := 1) (v := .ref lengths2a) (C := RX2) (T := TX2) (N := 10) hx hb hts hinX2 hown hK.1 hP 0 rfl rfl 2 (by decide) hw1 (fun _ h9 => h9) rfl dX2_weightLower_8 ?_
      refine lv_iload_n hx hb dX2_weightLower_11 rfl (lv_at hl 3 rfl) ?_
      obtain ⟨hi_7, h⟩ := gA_s h
      refine va_iald hx hb hK.1 hP 3 0 rfl rfl hi_7 dX2_weightLower_12 ?_
      refine lv_topi (fun v_8 ev_8 => ?_)
      have h := h v_8 ev_8
      refine lv_icmp_ge (tgt := 30) hx hb dX2_weightLower_13 (by decide) (fun c_9 => ?_) (fun c_9 => ?_)
      · have h := it_p c_9 h
        cases h
        exact K _ _ _ hP hD hS (lv_sub hl [1] rfl)
      · have h := it_n c_9 h
        refine lv_lload_n hx hb dX2_weightLower_16 rfl (lv_at hl 1 rfl) ?_
        refine lv_aload_n hx hb dX2_weightLower_17 rfl (lv_at hl 2 rfl) ?_
        refine lv_iload_n hx hb dX2_weightLower_18 rfl (lv_at hl 4 rfl) ?_
        obtain ⟨rj_10, hc_11, h⟩ := bd_s h
        refine callTl (As := [.int i2]) (rest := [.long k3_4]) ⟨hx, hb, hml, hown, hts⟩ (c_X2_shareLower l D cI cJ h2 labels2a guesses2a lengths2a words2a times2a totals2a sizes2a labels2 guesses2 lengths2 words2 times2 totals2 sizes2 rowCount2 addedUp2 addedDown2 i2 rj_10 hc_11) (cwV 1 hts gX2_weightLower_X2_shareLower rfl rfl rfl (by decide +kernel) ⟨Nat.le_of_ble_eq_true rfl, Nat.le_of_ble_eq_true rfl⟩) hK hP hD hS hA 0 1 rfl rfl rfl rfl hl.1 rfl (Nat.le_of_ble_eq_true rfl) dX2_weightLower_19 ⟨Nat.zero_le _, Nat.zero_le _⟩ (fun H locs hP hD hS => ?_)
        refine lv_lmul hx hb dX2_weightLower_22 ?_
        refine lv_topl (fun j3_12 ej3_12 => ?_)
        have h := nm_s h j3_12 ej3_12
        refine lv_lstore_n (lv' := [(3, .long j3_12), (5, .int y5_3), (0, .ref h2), (1, .int i1), (2, .int i2)]) hx hb dX2_weightLower_23 rfl hl (by decide) rfl (fun ls hl => ?_)
        obtain ⟨x5_13, ex5_13⟩ : ∃ z : Int32, z = y5_3 + 1 := ⟨_, rfl⟩
        have h := nm_s h x5_13 ex5_13
        refine lv_iinc (v := x5_13) (lv' := [(5, .int x5_13), (3, .long j3_12), (0, .ref h2), (1, .int i1), (2, .int i2)]) hx hb dX2_weightLower_24 hl (k := 1) rfl (by rw [ex5_13]; rfl) (by decide) rfl (fun ls hl => ?_)
        refine lv_goto (tgt := 5) hx hb dX2_weightLower_27 (by decide) ?_
        exact ih _ _ _ _ h _ _ _ hP hD hS (lv_sub hl [0, 1, 2, 3, 4] rfl) K
  obtain ⟨⟨z5_14, z3_15⟩, hl_16, h⟩ := bd_s h
  refine L5 FU x5_2 j3_1 _ _ hl_16 _ _ _ hP hD hS (lv_sub hl [0, 1, 2, 3, 4] rfl) (fun H locs ls hP hD hS hl => ?_)
  refine lv_lload_n hx hb dX2_weightLower_30 rfl (lv_at hl 0 rfl) ?_
  cases h
  exact hret _ _ _ _ hP hD hS dX2_weightLower_31
def f_X2_bestLabel_L10 (i1 : Int32) (lengths2 : Nat → Int32) (words2 : Nat → Int32) (times2 : Nat → Int32) (totals2 : Nat → Int32) (sizes2 : Nat → Int32) (addedUp2 : Int32) (addedDown2 : Int32) : Nat → Int32 → Int64 → Int64 → Int32 → Option (Int32 × Int64 × Int64 × Int32)
  | 0, _, _, _, _ => none
  | n + 1, y7_5, k5_6, k3_7, y2_8 =>
  if 4 ≤ y7_5 then
    some (y7_5, k5_6, k3_7, y2_8)
  else
    Option.bind (f_X2_weightUpper i1 y7_5 lengths2 words2 times2 sizes2 addedUp2 addedDown2) fun rj_14 =>
    nm (α := Int64) (rj_14) fun j8_16 =>
    Option.bind (f_X2_weightLower i1 y7_5 lengths2 totals2 addedUp2 addedDown2) fun rj_17 =>
    nm (α := Int64) (rj_17) fun j10_19 =>
    if (lg_cmp j8_16 0) ≤ 0 then
      nm (α := Int32) (y7_5 + 1) fun x7_21 =>
      f_X2_bestLabel_L10 i1 lengths2 words2 times2 totals2 sizes2 addedUp2 addedDown2 n x7_21 k5_6 k3_7 y2_8
    else
      Option.bind (f_X0_isAbove j8_16 j10_19 k3_7 k5_6) fun r_22 =>
      if r_22 = 0 then
        nm (α := Int32) (y7_5 + 1) fun x7_25 =>
        f_X2_bestLabel_L10 i1 lengths2 words2 times2 totals2 sizes2 addedUp2 addedDown2 n x7_25 k5_6 k3_7 y2_8
      else
        nm (α := Int32) (y7_5) fun x2_26 =>
        nm (α := Int64) (j8_16) fun j3_27 =>
        nm (α := Int64) (j10_19) fun j5_28 =>
        nm (α := Int32) (y7_5 + 1) fun x7_29 =>
        f_X2_bestLabel_L10 i1 lengths2 words2 times2 totals2 sizes2 addedUp2 addedDown2 n x7_29 j5_28 j3_27 x2_26
def f_X2_bestLabel (i1 : Int32) (lengths2 : Nat → Int32) (words2 : Nat → Int32) (times2 : Nat → Int32) (totals2 : Nat → Int32) (sizes2 : Nat → Int32) (addedUp2 : Int32) (addedDown2 : Int32) : Option (Int32) :=
  nm (α := Int32) ((-1)) fun x2_1 =>
  nm (α := Int64) (0) fun j3_2 =>
  nm (α := Int64) (1) fun j5_3 =>
  nm (α := Int32) (0) fun x7_4 =>
  Option.bind (f_X2_bestLabel_L10 i1 lengths2 words2 times2 totals2 sizes2 addedUp2 addedDown2 FU x7_4 j5_3 j3_2 x2_1) fun (z7_30, z5_31, z3_32, z2_33) =>
  some z2_33
set_option maxHeartbeats 4000000 in
set_option maxRecDepth 100000 in
theorem c_X2_bestLabel (l : Launch) (D : va_G) (cI cJ : ClassId) (h2 labels2a guesses2a lengths2a words2a times2a totals2a sizes2a : Nat) (labels2 : Nat → Int32) (guesses2 : Nat → Int32) (lengths2 : Nat → Int32) (words2 : Nat → Int32) (times2 : Nat → Int32) (totals2 : Nat → Int32) (sizes2 : Nat → Int32) (rowCount2 : Int32) (addedUp2 : Int32) (addedDown2 : Int32) (i1 : Int32) (ret9 : Int32) (h : f_X2_bestLabel i1 lengths2 words2 times2 totals2 sizes2 addedUp2 addedDown2 = some ret9) : CI l D cI cJ yX2_bestLabel wsX2_bestLabel 3 69 [.ref h2, .int i1] (w2 cI cJ h2 labels2a guesses2a lengths2a words2a times2a totals2a sizes2a labels2 guesses2 lengths2 words2 times2 totals2 sizes2 rowCount2 addedUp2 addedDown2) (w2 cI cJ h2 labels2a guesses2a lengths2a words2a times2a totals2a sizes2a labels2 guesses2 lengths2 words2 times2 totals2 sizes2 rowCount2 addedUp2 addedDown2) ret9 := by
  refine entI (cc := cX2_bestLabel) (maxL := 12) (by decide) rfl (Nat.le_of_ble_eq_true rfl) ?_
  intro p e s m args below meth c ls A Q X hret
  obtain ⟨hx, hb, hml, hts, hown, hK, hA, hP, hD, hS, hl, hnm⟩ := X
  have hown : s.vm.findClass RX2 = some m.cls := hown
  have hl : lv_has ls 12 [(0, .ref h2), (1, .int i1)] := hl
  unfold f_X2_bestLabel at h
  refine lv_iconst (v := (-1)) hx hb dX2_bestLabel_0 (by decide) ?_
  refine lv_topi (fun x2_1 ex2_1 => ?_)
  have h := nm_s h x2_1 ex2_1
  refine lv_istore_n (lv' := [(2, .int x2_1), (0, .ref h2), (1, .int i1)]) hx hb dX2_bestLabel_1 rfl hl (by decide) rfl (fun ls hl => ?_)
  refine lv_lconst (v := 0) hx hb dX2_bestLabel_2 (by decide) ?_
  refine lv_topl (fun j3_2 ej3_2 => ?_)
  have h := nm_s h j3_2 ej3_2
  refine lv_lstore_n (lv' := [(3, .long j3_2), (2, .int x2_1), (0, .ref h2), (1, .int i1)]) hx hb dX2_bestLabel_3 rfl hl (by decide) rfl (fun ls hl => ?_)
  refine lv_lconst (v := 1) hx hb dX2_bestLabel_4 (by decide) ?_
  refine lv_topl (fun j5_3 ej5_3 => ?_)
  have h := nm_s h j5_3 ej5_3
  refine lv_lstore (lv' := [(5, .long j5_3), (3, .long j3_2), (2, .int x2_1), (0, .ref h2), (1, .int i1)]) hx hb dX2_bestLabel_5 hl (by decide) rfl (fun ls hl => ?_)
  refine lv_iconst (v := 0) hx hb dX2_bestLabel_7 (by decide) ?_
  refine lv_topi (fun x7_4 ex7_4 => ?_)
  have h := nm_s h x7_4 ex7_4
  refine lv_istore (lv' := [(7, .int x7_4), (5, .long j5_3), (3, .long j3_2), (2, .int x2_1), (0, .ref h2), (1, .int i1)]) hx hb dX2_bestLabel_8 hl (by decide) rfl (fun ls hl => ?_)
  have L10 : ∀ (n : Nat) (y7_5 : Int32) (k5_6 : Int64) (k3_7 : Int64) (y2_8 : Int32) (z7_9 : Int32) (z5_10 : Int64) (z3_11 : Int64) (z2_12 : Int32), f_X2_bestLabel_L10 i1 lengths2 words2 times2 totals2 sizes2 addedUp2 addedDown2 n y7_5 k5_6 k3_7 y2_8 = some (z7_9, z5_10, z3_11, z2_12) → ∀ (H : Heap) (locs : List Loc) (ls : Array Slot), va_P D vwK (w2 cI cJ h2 labels2a guesses2a lengths2a words2a times2a totals2a sizes2a labels2 guesses2 lengths2 words2 times2 totals2 sizes2 rowCount2 addedUp2 addedDown2) H → va_D A (w2 cI cJ h2 labels2a guesses2a lengths2a words2a times2a totals2a sizes2a labels2 guesses2 lengths2 words2 times2 totals2 sizes2 rowCount2 addedUp2 addedDown2) → va_S A s.heap H locs → lv_has ls 12 [(7, .int y7_5), (5, .long k5_6), (3, .long k3_7), (2, .int y2_8), (0, .ref h2), (1, .int i1)] → (∀ (H : Heap) (locs : List Loc) (ls : Array Slot), va_P D vwK (w2 cI cJ h2 labels2a guesses2a lengths2a words2a times2a totals2a sizes2a labels2 guesses2 lengths2 words2 times2 totals2 sizes2 rowCount2 addedUp2 addedDown2) H → va_D A (w2 cI cJ h2 labels2a guesses2a lengths2a words2a times2a totals2a sizes2a labels2 guesses2 lengths2 words2 times2 totals2 sizes2 rowCount2 addedUp2 addedDown2) → va_S A s.heap H locs → lv_has ls 12 [(2, .int z2_12)] → W p l e (rmOf 3 69) s m args below meth c H locs 0 0 Q (F0 m 70 ls [])) → W p l e (rmOf 3 69) s m args below meth c H locs 0 0 Q (F0 m 10 ls []) := by
    intro n
    induction n with
    | zero => intro y7_5 k5_6 k3_7 y2_8 z7_9 z5_10 z3_11 z2_12 h; rw [f_X2_bestLabel_L10.eq_1] at h; cases h
    | succ n ih =>
      intro y7_5 k5_6 k3_7 y2_8 z7_9 z5_10 z3_11 z2_12 h H locs ls hP hD hS hl K
      rw [f_X2_bestLabel_L10.eq_2] at h
      refine lv_iload hx hb dX2_bestLabel_10 (lv_at hl 0 rfl) ?_
      refine lv_iconst (v := 4) hx hb dX2_bestLabel_12 (by decide) ?_
      refine lv_icmp_ge (tgt := 70) hx hb dX2_bestLabel_13 (by decide) (fun c_13 => ?_) (fun c_13 => ?_)
      · have h := it_p c_13 h
        cases h
        exact K _ _ _ hP hD hS (lv_sub hl [3] rfl)
      · have h := it_n c_13 h
        refine lv_aload_n hx hb dX2_bestLabel_16 rfl (lv_at hl 4 rfl) ?_
        refine lv_iload_n hx hb dX2_bestLabel_17 rfl (lv_at hl 5 rfl) ?_
        refine lv_iload hx hb dX2_bestLabel_18 (lv_at hl 0 rfl) ?_
        obtain ⟨rj_14, hc_15, h⟩ := bd_s h
        refine callTl (As := [.int i1, .int y7_5]) (rest := []) ⟨hx, hb, hml, hown, hts⟩ (c_X2_weightUpper l D cI cJ h2 labels2a guesses2a lengths2a words2a times2a totals2a sizes2a labels2 guesses2 lengths2 words2 times2 totals2 sizes2 rowCount2 addedUp2 addedDown2 i1 y7_5 rj_14 hc_15) (cwV 2 hts gX2_bestLabel_X2_weightUpper rfl rfl rfl (by decide +kernel) ⟨Nat.le_of_ble_eq_true rfl, Nat.le_of_ble_eq_true rfl⟩) hK hP hD hS hA 0 1 rfl rfl rfl rfl hl.1 rfl (Nat.le_of_ble_eq_true rfl) dX2_bestLabel_20 ⟨Nat.zero_le _, Nat.zero_le _⟩ (fun H locs hP hD hS => ?_)
        refine lv_topl (fun j8_16 ej8_16 => ?_)
        have h := nm_s h j8_16 ej8_16
        refine lv_lstore (lv' := [(8, .long j8_16), (7, .int y7_5), (5, .long k5_6), (3, .long k3_7), (2, .int y2_8), (0, .ref h2), (1, .int i1)]) hx hb dX2_bestLabel_23 hl (by decide) rfl (fun ls hl => ?_)
        refine lv_aload_n hx hb dX2_bestLabel_25 rfl (lv_at hl 5 rfl) ?_
        refine lv_iload_n hx hb dX2_bestLabel_26 rfl (lv_at hl 6 rfl) ?_
        refine lv_iload hx hb dX2_bestLabel_27 (lv_at hl 1 rfl) ?_
        obtain ⟨rj_17, hc_18, h⟩ := bd_s h
        refine callTl (As := [.int i1, .int y7_5]) (rest := []) ⟨hx, hb, hml, hown, hts⟩ (c_X2_weightLower l D cI cJ h2 labels2a guesses2a lengths2a words2a times2a totals2a sizes2a labels2 guesses2 lengths2 words2 times2 totals2 sizes2 rowCount2 addedUp2 addedDown2 i1 y7_5 rj_17 hc_18) (cwV 2 hts gX2_bestLabel_X2_weightLower rfl rfl rfl (by decide +kernel) ⟨Nat.le_of_ble_eq_true rfl, Nat.le_of_ble_eq_true rfl⟩) hK hP hD hS hA 0 1 rfl rfl rfl rfl hl.1 rfl (Nat.le_of_ble_eq_true rfl) dX2_bestLabel_29 ⟨Nat.zero_le _, Nat.zero_le _⟩ (fun H locs hP hD hS => ?_)
        refine lv_topl (fun j10_19 ej10_19 => ?_)
        have h := nm_s h j10_19 ej10_19
        refine lv_lstore (lv' := [(10, .long j10_19), (8, .long j8_16), (7, .int y7_5), (5, .long k5_6), (3, .long k3_7), (2, .int y2_8), (0, .ref h2), (1, .int i1)]) hx hb dX2_bestLabel_32 hl (by decide) rfl (fun ls hl => ?_)
        refine lv_lload hx hb dX2_bestLabel_34 (lv_at hl 1 rfl) ?_
        refine lv_lconst (v := 0) hx hb dX2_bestLabel_36 (by decide) ?_
        refine W.lcmp hx hb dX2_bestLabel_37 ?_
        refine lv_if_le (tgt := 64) hx hb dX2_bestLabel_38 (by decide) (fun c_20 => ?_) (fun c_20 => ?_)
        · have h := it_p c_20 h
          obtain ⟨x7_21, ex7_21⟩ : ∃ z : Int32, z = y7_5 + 1 := ⟨_, rfl⟩
          have h := nm_s h x7_21 ex7_21
          refine lv_iinc (v := x7_21) (lv' := [(7, .int x7_21), (10, .long j10_19), (8, .long j8_16), (5, .long k5_6), (3, .long k3_7), (2, .int y2_8), (0, .ref h2), (1, .int i1)]) hx hb dX2_bestLabel_64 hl (k := 2) rfl (by rw [ex7_21]; rfl) (by decide) rfl (fun ls hl => ?_)
          refine lv_goto (tgt := 10) hx hb dX2_bestLabel_67 (by decide) ?_
          exact ih _ _ _ _ _ _ _ _ h _ _ _ hP hD hS (lv_sub hl [0, 3, 4, 5, 6, 7] rfl) K
        · have h := it_n c_20 h
          refine lv_lload hx hb dX2_bestLabel_41 (lv_at hl 1 rfl) ?_
          refine lv_lload hx hb dX2_bestLabel_43 (lv_at hl 0 rfl) ?_
          refine lv_lload_n hx hb dX2_bestLabel_45 rfl (lv_at hl 4 rfl) ?_
          refine lv_lload hx hb dX2_bestLabel_46 (lv_at hl 3 rfl) ?_
          obtain ⟨r_22, hc_23, h⟩ := bd_s h
          refine callPi (As := [.long j8_16, .long j10_19, .long k3_7, .long k5_6]) (rest := []) ⟨hx, hb, hml, hown, hts⟩ (c_X0_isAbove l D cI cJ j8_16 j10_19 k3_7 k5_6 r_22 hc_23) (va_cwS 4 hts gX2_bestLabel_X0_isAbove rfl rfl rfl (by decide +kernel) ⟨Nat.le_of_ble_eq_true rfl, Nat.le_of_ble_eq_true rfl⟩) hK hP hD hS hA rfl hl.1 rfl (Nat.le_of_ble_eq_true rfl) dX2_bestLabel_48 ⟨Nat.zero_le _, Nat.zero_le _⟩ (fun H locs hP hD hS => ?_)
          refine lv_if_eq (tgt := 64) hx hb dX2_bestLabel_51 (by decide) (fun c_24 => ?_) (fun c_24 => ?_)
          · have h := it_p c_24 h
            obtain ⟨x7_25, ex7_25⟩ : ∃ z : Int32, z = y7_5 + 1 := ⟨_, rfl⟩
            have h := nm_s h x7_25 ex7_25
            refine lv_iinc (v := x7_25) (lv' := [(7, .int x7_25), (10, .long j10_19), (8, .long j8_16), (5, .long k5_6), (3, .long k3_7), (2, .int y2_8), (0, .ref h2), (1, .int i1)]) hx hb dX2_bestLabel_64 hl (k := 2) rfl (by rw [ex7_25]; rfl) (by decide) rfl (fun ls hl => ?_)
            refine lv_goto (tgt := 10) hx hb dX2_bestLabel_67 (by decide) ?_
            exact ih _ _ _ _ _ _ _ _ h _ _ _ hP hD hS (lv_sub hl [0, 3, 4, 5, 6, 7] rfl) K
          · have h := it_n c_24 h
            refine lv_iload hx hb dX2_bestLabel_54 (lv_at hl 2 rfl) ?_
            refine lv_topi (fun x2_26 ex2_26 => ?_)
            have h := nm_s h x2_26 ex2_26
            refine lv_istore_n (lv' := [(2, .int x2_26), (10, .long j10_19), (8, .long j8_16), (7, .int y7_5), (5, .long k5_6), (3, .long k3_7), (0, .ref h2), (1, .int i1)]) hx hb dX2_bestLabel_56 rfl hl (by decide) rfl (fun ls hl => ?_)
            refine lv_lload hx hb dX2_bestLabel_57 (lv_at hl 2 rfl) ?_
            refine lv_topl (fun j3_27 ej3_27 => ?_)
            have h := nm_s h j3_27 ej3_27
            refine lv_lstore_n (lv' := [(3, .long j3_27), (2, .int x2_26), (10, .long j10_19), (8, .long j8_16), (7, .int y7_5), (5, .long k5_6), (0, .ref h2), (1, .int i1)]) hx hb dX2_bestLabel_59 rfl hl (by decide) rfl (fun ls hl => ?_)
            refine lv_lload hx hb dX2_bestLabel_60 (lv_at hl 2 rfl) ?_
            refine lv_topl (fun j5_28 ej5_28 => ?_)
            have h := nm_s h j5_28 ej5_28
            refine lv_lstore (lv' := [(5, .long j5_28), (3, .long j3_27), (2, .int x2_26), (10, .long j10_19), (8, .long j8_16), (7, .int y7_5), (0, .ref h2), (1, .int i1)]) hx hb dX2_bestLabel_62 hl (by decide) rfl (fun ls hl => ?_)
            obtain ⟨x7_29, ex7_29⟩ : ∃ z : Int32, z = y7_5 + 1 := ⟨_, rfl⟩
            have h := nm_s h x7_29 ex7_29
            refine lv_iinc (v := x7_29) (lv' := [(7, .int x7_29), (5, .long j5_28), (3, .long j3_27), (2, .int x2_26), (10, .long j10_19), (8, .long j8_16), (0, .ref h2), (1, .int i1)]) hx hb dX2_bestLabel_64 hl (k := 5) rfl (by rw [ex7_29]; rfl) (by decide) rfl (fun ls hl => ?_)
            refine lv_goto (tgt := 10) hx hb dX2_bestLabel_67 (by decide) ?_
            exact ih _ _ _ _ _ _ _ _ h _ _ _ hP hD hS (lv_sub hl [0, 1, 2, 3, 6, 7] rfl) K
  obtain ⟨⟨z7_30, z5_31, z3_32, z2_33⟩, hl_34, h⟩ := bd_s h
  refine L10 FU x7_4 j5_3 j3_2 x2_1 _ _ _ _ hl_34 _ _ _ hP hD hS (lv_sub hl [0, 1, 2, 3, 4, 5] rfl) (fun H locs ls hP hD hS hl => ?_)
  refine lv_iload_n hx hb dX2_bestLabel_70 rfl (lv_at hl 0 rfl) ?_
  cases h
  exact hret _ _ _ _ hP hD hS dX2_bestLabel_71
def f_X2_guessAnew_L4 (labels2 : Nat → Int32) (lengths2 : Nat → Int32) (words2 : Nat → Int32) (times2 : Nat → Int32) (totals2 : Nat → Int32) (sizes2 : Nat → Int32) (rowCount2 : Int32) (addedUp2 : Int32) (addedDown2 : Int32) : Nat → Int32 → Int32 → (Nat → Int32) → Option (Int32 × Int32 × (Nat → Int32))
  | 0, _, _, _ => none
  | n + 1, y2_3, y1_4, guesses2_5 =>
  if rowCount2 ≤ y2_3 then
    some (y2_3, y1_4, guesses2_5)
  else
    gA 40 labels2 y2_3 fun v_11 =>
    if v_11 = (-1) then
      Option.bind (f_X2_bestLabel y2_3 lengths2 words2 times2 totals2 sizes2 addedUp2 addedDown2) fun r_14 =>
      nm (α := Int32) (r_14) fun x3_16 =>
      if y1_4 = 0 then
        gA 40 guesses2_5 y2_3 fun v_23 =>
        if x3_16 = v_23 then
          nm (α := Int32) (0) fun x1_25 =>
          sI 40 guesses2_5 y2_3 x3_16 fun guesses2_27 =>
          nm (α := Int32) (y2_3 + 1) fun x2_28 =>
          f_X2_guessAnew_L4 labels2 lengths2 words2 times2 totals2 sizes2 rowCount2 addedUp2 addedDown2 n x2_28 x1_25 guesses2_27
        else
          nm (α := Int32) (1) fun x1_29 =>
          sI 40 guesses2_5 y2_3 x3_16 fun guesses2_31 =>
          nm (α := Int32) (y2_3 + 1) fun x2_32 =>
          f_X2_guessAnew_L4 labels2 lengths2 words2 times2 totals2 sizes2 rowCount2 addedUp2 addedDown2 n x2_32 x1_29 guesses2_31
      else
        nm (α := Int32) (1) fun x1_18 =>
        sI 40 guesses2_5 y2_3 x3_16 fun guesses2_20 =>
        nm (α := Int32) (y2_3 + 1) fun x2_21 =>
        f_X2_guessAnew_L4 labels2 lengths2 words2 times2 totals2 sizes2 rowCount2 addedUp2 addedDown2 n x2_21 x1_18 guesses2_20
    else
      nm (α := Int32) (y2_3 + 1) fun x2_13 =>
      f_X2_guessAnew_L4 labels2 lengths2 words2 times2 totals2 sizes2 rowCount2 addedUp2 addedDown2 n x2_13 y1_4 guesses2_5
def f_X2_guessAnew (labels2 : Nat → Int32) (guesses2 : Nat → Int32) (lengths2 : Nat → Int32) (words2 : Nat → Int32) (times2 : Nat → Int32) (totals2 : Nat → Int32) (sizes2 : Nat → Int32) (rowCount2 : Int32) (addedUp2 : Int32) (addedDown2 : Int32) : Option (Int32 × (Nat → Int32) × (Nat → Int32) × (Nat → Int32) × (Nat → Int32)) :=
  nm (α := Int32) (0) fun x1_1 =>
  nm (α := Int32) (0) fun x2_2 =>
  Option.bind (f_X2_guessAnew_L4 labels2 lengths2 words2 times2 totals2 sizes2 rowCount2 addedUp2 addedDown2 FU x2_2 x1_1 guesses2) fun (z2_33, z1_34, guesses2_35) =>
  Option.bind (f_X2_tally labels2 guesses2_35 lengths2 words2 times2 totals2 sizes2 rowCount2) fun (times2_37, totals2_38, sizes2_39) =>
  bz z1_34 <|
  some (z1_34, guesses2_35, times2_37, totals2_38, sizes2_39)
set_option maxHeartbeats 4000000 in
set_option maxRecDepth 100000 in
theorem c_X2_guessAnew (l : Launch) (D : va_G) (cI cJ : ClassId) (h2 labels2a guesses2a lengths2a words2a times2a totals2a sizes2a : Nat) (labels2 : Nat → Int32) (guesses2 : Nat → Int32) (lengths2 : Nat → Int32) (words2 : Nat → Int32) (times2 : Nat → Int32) (totals2 : Nat → Int32) (sizes2 : Nat → Int32) (rowCount2 : Int32) (addedUp2 : Int32) (addedDown2 : Int32) (ret9 : Int32) (guesses2z : Nat → Int32) (times2z : Nat → Int32) (totals2z : Nat → Int32) (sizes2z : Nat → Int32) (h : f_X2_guessAnew labels2 guesses2 lengths2 words2 times2 totals2 sizes2 rowCount2 addedUp2 addedDown2 = some (ret9, guesses2z, times2z, totals2z, sizes2z)) : CI l D cI cJ yX2_guessAnew wsX2_guessAnew 4 100 [.ref h2] (w2 cI cJ h2 labels2a guesses2a lengths2a words2a times2a totals2a sizes2a labels2 guesses2 lengths2 words2 times2 totals2 sizes2 rowCount2 addedUp2 addedDown2) (w2 cI cJ h2 labels2a guesses2a lengths2a words2a times2a totals2a sizes2a labels2 guesses2z lengths2 words2 times2z totals2z sizes2z rowCount2 addedUp2 addedDown2) ret9 := by
  refine entZ (cc := cX2_guessAnew) (maxL := 4) (by decide) rfl (Nat.le_of_ble_eq_true rfl) ?_
  intro p e s m args below meth c ls A Q X hret
  obtain ⟨hx, hb, hml, hts, hown, hK, hA, hP, hD, hS, hl, hnm⟩ := X
  have hown : s.vm.findClass RX2 = some m.cls := hown
  have hl : lv_has ls 4 [(0, .ref h2)] := hl
  have hw1 : (Cond.fieldLink RX2 33 "CountLearners$LabelledRows" "rowCount" "I").before args s = true := hts _ (by decide +kernel)
  have hinX2 : ∀ w ∈ wsX20, w ∈ wsX2_guessAnew := by decide +kernel
  have hw3 : (Cond.fieldLink RX2 11 "CountLearners$LabelledRows" "labels" "[I").before args s = true := hts _ (by decide +kernel)
  have hw4 : (Cond.fieldLink RX2 15 "CountLearners$LabelledRows" "guesses" "[I").before args s = true := hts _ (by decide +kernel)
  unfold f_X2_guessAnew at h
  refine lv_iconst (v := 0) hx hb dX2_guessAnew_0 (by decide) ?_
  refine lv_topi (fun x1_1 ex1_1 => ?_)
  have h := nm_s h x1_1 ex1_1
  refine lv_istore_n (lv' := [(1, .int x1_1), (0, .ref h2)]) hx hb dX2_guessAnew_1 rfl hl (by decide) rfl (fun ls hl => ?_)
  refine lv_iconst (v := 0) hx hb dX2_guessAnew_2 (by decide) ?_
  refine lv_topi (fun x2_2 ex2_2 => ?_)
  have h := nm_s h x2_2 ex2_2
  refine lv_istore_n (lv' := [(2, .int x2_2), (1, .int x1_1), (0, .ref h2)]) hx hb dX2_guessAnew_3 rfl hl (by decide) rfl (fun ls hl => ?_)
  have L4 : ∀ (n : Nat) (y2_3 : Int32) (y1_4 : Int32) (guesses2_5 : Nat → Int32) (z2_6 : Int32) (z1_7 : Int32) (guesses2_8 : Nat → Int32), f_X2_guessAnew_L4 labels2 lengths2 words2 times2 totals2 sizes2 rowCount2 addedUp2 addedDown2 n y2_3 y1_4 guesses2_5 = some (z2_6, z1_7, guesses2_8) → ∀ (H : Heap) (locs : List Loc) (ls : Array Slot), va_P D vwK (w2 cI cJ h2 labels2a guesses2a lengths2a words2a times2a totals2a sizes2a labels2 guesses2_5 lengths2 words2 times2 totals2 sizes2 rowCount2 addedUp2 addedDown2) H → va_D A (w2 cI cJ h2 labels2a guesses2a lengths2a words2a times2a totals2a sizes2a labels2 guesses2_5 lengths2 words2 times2 totals2 sizes2 rowCount2 addedUp2 addedDown2) → va_S A s.heap H locs → lv_has ls 4 [(2, .int y2_3), (1, .int y1_4), (0, .ref h2)] → (∀ (H : Heap) (locs : List Loc) (ls : Array Slot), va_P D vwK (w2 cI cJ h2 labels2a guesses2a lengths2a words2a times2a totals2a sizes2a labels2 guesses2_8 lengths2 words2 times2 totals2 sizes2 rowCount2 addedUp2 addedDown2) H → va_D A (w2 cI cJ h2 labels2a guesses2a lengths2a words2a times2a totals2a sizes2a labels2 guesses2_8 lengths2 words2 times2 totals2 sizes2 rowCount2 addedUp2 addedDown2) → va_S A s.heap H locs → lv_has ls 4 [(1, .int z1_7), (0, .ref h2)] → W p l e (rmOf 4 100) s m args below meth c H locs 0 0 Q (F0 m 61 ls [])) → W p l e (rmOf 4 100) s m args below meth c H locs 0 0 Q (F0 m 4 ls []) := by
    intro n
    induction n with
    | zero => intro y2_3 y1_4 guesses2_5 z2_6 z1_7 guesses2_8 h; rw [f_X2_guessAnew_L4.eq_1] at h; cases h
    | succ n ih =>
      intro y2_3 y1_4 guesses2_5 z2_6 z1_7 guesses2_8 h H locs ls hP hD hS hl K
      rw [f_X2_guessAnew_L4.eq_2] at h
      refine lv_iload_n hx hb dX2_guessAnew_4 rfl (lv_at hl 0 rfl) ?_
      refine lv_aload_n hx hb dX2_guessAnew_5 rfl (lv_at hl 2 rfl) ?_
      refine va_get (D := D) (ci := 1) (v := .int rowCount2) (C := RX2) (T := TX2) (N := 10) hx hb hts hinX2 hown hK.1 hP 0 rfl rfl 7 (by decide) hw1 (fun _ h9 => h9) rfl dX2_guessAnew_6 ?_
      refine lv_icmp_ge (tgt := 61) hx hb dX2_guessAnew_9 (by decide) (fun c_9 => ?_) (fun c_9 => ?_)
      · have h := it_p c_9 h
        cases h
        exact K _ _ _ hP hD hS (lv_sub hl [1, 2] rfl)
      · have h := it_n c_9 h
        refine lv_aload_n hx hb dX2_guessAnew_12 rfl (lv_at hl 2 rfl) ?_
        refine va_get (D := D) (ci := 1) (v := .ref labels2a) (C := RX2) (T := TX2) (N := 10) hx hb hts hinX2 hown hK.1 hP 0 rfl rfl 0 (by decide) hw3 (fun _ h9 => h9) rfl dX2_guessAnew_13 ?_
        refine lv_iload_n hx hb dX2_guessAnew_16 rfl (lv_at hl 0 rfl) ?_
        obtain ⟨hi_10, h⟩ := gA_s h
        refine va_iald hx hb hK.1 hP 1 0 rfl rfl hi_10 dX2_guessAnew_17 ?_
        refine lv_topi (fun v_11 ev_11 => ?_)
        have h := h v_11 ev_11
        refine lv_iconst (v := (-1)) hx hb dX2_guessAnew_18 (by decide) ?_
        refine lv_icmp_ne (tgt := 55) hx hb dX2_guessAnew_19 (by decide) (fun c_12 => ?_) (fun c_12 => ?_)
        · have h := it_n c_12 h
          obtain ⟨x2_13, ex2_13⟩ : ∃ z : Int32, z = y2_3 + 1 := ⟨_, rfl⟩
          have h := nm_s h x2_13 ex2_13
          refine lv_iinc (v := x2_13) (lv' := [(2, .int x2_13), (1, .int y1_4), (0, .ref h2)]) hx hb dX2_guessAnew_55 hl (k := 0) rfl (by rw [ex2_13]; rfl) (by decide) rfl (fun ls hl => ?_)
          refine lv_goto (tgt := 4) hx hb dX2_guessAnew_58 (by decide) ?_
          exact ih _ _ _ _ _ _ h _ _ _ hP hD hS (lv_sub hl [0, 1, 2] rfl) K
        · have h := it_p c_12 h
          refine lv_aload_n hx hb dX2_guessAnew_22 rfl (lv_at hl 2 rfl) ?_
          refine lv_iload_n hx hb dX2_guessAnew_23 rfl (lv_at hl 0 rfl) ?_
          obtain ⟨r_14, hc_15, h⟩ := bd_s h
          refine callTi (As := [.int y2_3]) (rest := []) ⟨hx, hb, hml, hown, hts⟩ (c_X2_bestLabel l D cI cJ h2 labels2a guesses2a lengths2a words2a times2a totals2a sizes2a labels2 guesses2_5 lengths2 words2 times2 totals2 sizes2 rowCount2 addedUp2 addedDown2 y2_3 r_14 hc_15) (cwV 1 hts gX2_guessAnew_X2_bestLabel rfl rfl rfl (by decide +kernel) ⟨Nat.le_of_ble_eq_true rfl, Nat.le_of_ble_eq_true rfl⟩) hK hP hD hS hA 0 1 rfl rfl rfl rfl hl.1 rfl (Nat.le_of_ble_eq_true rfl) dX2_guessAnew_24 ⟨Nat.zero_le _, Nat.zero_le _⟩ (fun H locs hP hD hS => ?_)
          refine lv_topi (fun x3_16 ex3_16 => ?_)
          have h := nm_s h x3_16 ex3_16
          refine lv_istore_n (lv' := [(3, .int x3_16), (2, .int y2_3), (1, .int y1_4), (0, .ref h2)]) hx hb dX2_guessAnew_27 rfl hl (by decide) rfl (fun ls hl => ?_)
          refine lv_iload_n hx hb dX2_guessAnew_28 rfl (lv_at hl 2 rfl) ?_
          refine lv_if_ne (tgt := 42) hx hb dX2_guessAnew_29 (by decide) (fun c_17 => ?_) (fun c_17 => ?_)
          · have h := it_n c_17 h
            refine lv_iconst (v := 1) hx hb dX2_guessAnew_42 (by decide) ?_
            refine lv_goto (tgt := 47) hx hb dX2_guessAnew_43 (by decide) ?_
            refine lv_topi (fun x1_18 ex1_18 => ?_)
            have h := nm_s h x1_18 ex1_18
            refine lv_istore_n (lv' := [(1, .int x1_18), (3, .int x3_16), (2, .int y2_3), (0, .ref h2)]) hx hb dX2_guessAnew_47 rfl hl (by decide) rfl (fun ls hl => ?_)
            refine lv_aload_n hx hb dX2_guessAnew_48 rfl (lv_at hl 3 rfl) ?_
            refine va_get (D := D) (ci := 1) (v := .ref guesses2a) (C := RX2) (T := TX2) (N := 10) hx hb hts hinX2 hown hK.1 hP 0 rfl rfl 1 (by decide) hw4 (fun _ h9 => h9) rfl dX2_guessAnew_49 ?_
            refine lv_iload_n hx hb dX2_guessAnew_52 rfl (lv_at hl 2 rfl) ?_
            refine lv_iload_n hx hb dX2_guessAnew_53 rfl (lv_at hl 1 rfl) ?_
            obtain ⟨hi_19, h⟩ := sI_s h
            refine va_iast hx hb hK.1 hP hD hS 2 0 rfl rfl hi_19 dX2_guessAnew_54 (fun H locs hP hD hS => ?_)
            obtain ⟨guesses2_20, eguesses2_20⟩ : ∃ z, z = upd guesses2_5 (Int32.toNatClampNeg y2_3) x3_16 := ⟨_, rfl⟩
            have h := h guesses2_20 eguesses2_20
            rw [← eguesses2_20] at hP hD
            have hP : va_P D vwK (w2 cI cJ h2 labels2a guesses2a lengths2a words2a times2a totals2a sizes2a labels2 guesses2_20 lengths2 words2 times2 totals2 sizes2 rowCount2 addedUp2 addedDown2) H := hP
            have hD : va_D A (w2 cI cJ h2 labels2a guesses2a lengths2a words2a times2a totals2a sizes2a labels2 guesses2_20 lengths2 words2 times2 totals2 sizes2 rowCount2 addedUp2 addedDown2) := hD
            obtain ⟨x2_21, ex2_21⟩ : ∃ z : Int32, z = y2_3 + 1 := ⟨_, rfl⟩
            have h := nm_s h x2_21 ex2_21
            refine lv_iinc (v := x2_21) (lv' := [(2, .int x2_21), (1, .int x1_18), (3, .int x3_16), (0, .ref h2)]) hx hb dX2_guessAnew_55 hl (k := 2) rfl (by rw [ex2_21]; rfl) (by decide) rfl (fun ls hl => ?_)
            refine lv_goto (tgt := 4) hx hb dX2_guessAnew_58 (by decide) ?_
            exact ih _ _ _ _ _ _ h _ _ _ hP hD hS (lv_sub hl [0, 1, 3] rfl) K
          · have h := it_p c_17 h
            refine lv_iload_n hx hb dX2_guessAnew_32 rfl (lv_at hl 0 rfl) ?_
            refine lv_aload_n hx hb dX2_guessAnew_33 rfl (lv_at hl 3 rfl) ?_
            refine va_get (D := D) (ci := 1) (v := .ref guesses2a) (C := RX2) (T := TX2) (N := 10) hx hb hts hinX2 hown hK.1 hP 0 rfl rfl 1 (by decide) hw4 (fun _ h9 => h9) rfl dX2_guessAnew_34 ?_
            refine lv_iload_n hx hb dX2_guessAnew_37 rfl (lv_at hl 1 rfl) ?_
            obtain ⟨hi_22, h⟩ := gA_s h
            refine va_iald hx hb hK.1 hP 2 0 rfl rfl hi_22 dX2_guessAnew_38 ?_
            refine lv_topi (fun v_23 ev_23 => ?_)
            have h := h v_23 ev_23
            refine lv_icmp_eq (tgt := 46) hx hb dX2_guessAnew_39 (by decide) (fun c_24 => ?_) (fun c_24 => ?_)
            · have h := it_p c_24 h
              refine lv_iconst (v := 0) hx hb dX2_guessAnew_46 (by decide) ?_
              refine lv_topi (fun x1_25 ex1_25 => ?_)
              have h := nm_s h x1_25 ex1_25
              refine lv_istore_n (lv' := [(1, .int x1_25), (3, .int x3_16), (2, .int y2_3), (0, .ref h2)]) hx hb dX2_guessAnew_47 rfl hl (by decide) rfl (fun ls hl => ?_)
              refine lv_aload_n hx hb dX2_guessAnew_48 rfl (lv_at hl 3 rfl) ?_
              refine va_get (D := D) (ci := 1) (v := .ref guesses2a) (C := RX2) (T := TX2) (N := 10) hx hb hts hinX2 hown hK.1 hP 0 rfl rfl 1 (by decide) hw4 (fun _ h9 => h9) rfl dX2_guessAnew_49 ?_
              refine lv_iload_n hx hb dX2_guessAnew_52 rfl (lv_at hl 2 rfl) ?_
              refine lv_iload_n hx hb dX2_guessAnew_53 rfl (lv_at hl 1 rfl) ?_
              obtain ⟨hi_26, h⟩ := sI_s h
              refine va_iast hx hb hK.1 hP hD hS 2 0 rfl rfl hi_26 dX2_guessAnew_54 (fun H locs hP hD hS => ?_)
              obtain ⟨guesses2_27, eguesses2_27⟩ : ∃ z, z = upd guesses2_5 (Int32.toNatClampNeg y2_3) x3_16 := ⟨_, rfl⟩
              have h := h guesses2_27 eguesses2_27
              rw [← eguesses2_27] at hP hD
              have hP : va_P D vwK (w2 cI cJ h2 labels2a guesses2a lengths2a words2a times2a totals2a sizes2a labels2 guesses2_27 lengths2 words2 times2 totals2 sizes2 rowCount2 addedUp2 addedDown2) H := hP
              have hD : va_D A (w2 cI cJ h2 labels2a guesses2a lengths2a words2a times2a totals2a sizes2a labels2 guesses2_27 lengths2 words2 times2 totals2 sizes2 rowCount2 addedUp2 addedDown2) := hD
              obtain ⟨x2_28, ex2_28⟩ : ∃ z : Int32, z = y2_3 + 1 := ⟨_, rfl⟩
              have h := nm_s h x2_28 ex2_28
              refine lv_iinc (v := x2_28) (lv' := [(2, .int x2_28), (1, .int x1_25), (3, .int x3_16), (0, .ref h2)]) hx hb dX2_guessAnew_55 hl (k := 2) rfl (by rw [ex2_28]; rfl) (by decide) rfl (fun ls hl => ?_)
              refine lv_goto (tgt := 4) hx hb dX2_guessAnew_58 (by decide) ?_
              exact ih _ _ _ _ _ _ h _ _ _ hP hD hS (lv_sub hl [0, 1, 3] rfl) K
            · have h := it_n c_24 h
              refine lv_iconst (v := 1) hx hb dX2_guessAnew_42 (by decide) ?_
              refine lv_goto (tgt := 47) hx hb dX2_guessAnew_43 (by decide) ?_
              refine lv_topi (fun x1_29 ex1_29 => ?_)
              have h := nm_s h x1_29 ex1_29
              refine lv_istore_n (lv' := [(1, .int x1_29), (3, .int x3_16), (2, .int y2_3), (0, .ref h2)]) hx hb dX2_guessAnew_47 rfl hl (by decide) rfl (fun ls hl => ?_)
              refine lv_aload_n hx hb dX2_guessAnew_48 rfl (lv_at hl 3 rfl) ?_
              refine va_get (D := D) (ci := 1) (v := .ref guesses2a) (C := RX2) (T := TX2) (N := 10) hx hb hts hinX2 hown hK.1 hP 0 rfl rfl 1 (by decide) hw4 (fun _ h9 => h9) rfl dX2_guessAnew_49 ?_
              refine lv_iload_n hx hb dX2_guessAnew_52 rfl (lv_at hl 2 rfl) ?_
              refine lv_iload_n hx hb dX2_guessAnew_53 rfl (lv_at hl 1 rfl) ?_
              obtain ⟨hi_30, h⟩ := sI_s h
              refine va_iast hx hb hK.1 hP hD hS 2 0 rfl rfl hi_30 dX2_guessAnew_54 (fun H locs hP hD hS => ?_)
              obtain ⟨guesses2_31, eguesses2_31⟩ : ∃ z, z = upd guesses2_5 (Int32.toNatClampNeg y2_3) x3_16 := ⟨_, rfl⟩
              have h := h guesses2_31 eguesses2_31
              rw [← eguesses2_31] at hP hD
              have hP : va_P D vwK (w2 cI cJ h2 labels2a guesses2a lengths2a words2a times2a totals2a sizes2a labels2 guesses2_31 lengths2 words2 times2 totals2 sizes2 rowCount2 addedUp2 addedDown2) H := hP
              have hD : va_D A (w2 cI cJ h2 labels2a guesses2a lengths2a words2a times2a totals2a sizes2a labels2 guesses2_31 lengths2 words2 times2 totals2 sizes2 rowCount2 addedUp2 addedDown2) := hD
              obtain ⟨x2_32, ex2_32⟩ : ∃ z : Int32, z = y2_3 + 1 := ⟨_, rfl⟩
              have h := nm_s h x2_32 ex2_32
              refine lv_iinc (v := x2_32) (lv' := [(2, .int x2_32), (1, .int x1_29), (3, .int x3_16), (0, .ref h2)]) hx hb dX2_guessAnew_55 hl (k := 2) rfl (by rw [ex2_32]; rfl) (by decide) rfl (fun ls hl => ?_)
              refine lv_goto (tgt := 4) hx hb dX2_guessAnew_58 (by decide) ?_
              exact ih _ _ _ _ _ _ h _ _ _ hP hD hS (lv_sub hl [0, 1, 3] rfl) K
  obtain ⟨⟨z2_33, z1_34, guesses2_35⟩, hl_36, h⟩ := bd_s h
  refine L4 FU x2_2 x1_1 guesses2 _ _ _ hl_36 _ _ _ hP hD hS (lv_sub hl [0, 1, 2] rfl) (fun H locs ls hP hD hS hl => ?_)
  refine lv_aload_n hx hb dX2_guessAnew_61 rfl (lv_at hl 1 rfl) ?_
  obtain ⟨⟨times2_37, totals2_38, sizes2_39⟩, hc_40, h⟩ := bd_s h
  refine callTv (As := []) (rest := []) ⟨hx, hb, hml, hown, hts⟩ (c_X2_tally l D cI cJ h2 labels2a guesses2a lengths2a words2a times2a totals2a sizes2a labels2 guesses2_35 lengths2 words2 times2 totals2 sizes2 rowCount2 addedUp2 addedDown2 times2_37 totals2_38 sizes2_39 hc_40) (cwV 0 hts gX2_guessAnew_X2_tally rfl rfl rfl (by decide +kernel) ⟨Nat.le_of_ble_eq_true rfl, Nat.le_of_ble_eq_true rfl⟩) hK hP hD hS hA 0 1 rfl rfl rfl rfl hl.1 rfl (Nat.le_of_ble_eq_true rfl) dX2_guessAnew_62 ⟨Nat.zero_le _, Nat.zero_le _⟩ (fun H locs hP hD hS => ?_)
  refine lv_iload_n hx hb dX2_guessAnew_65 rfl (lv_at hl 0 rfl) ?_
  obtain ⟨hz_41, h⟩ := bz_s h
  cases h
  exact hret _ _ _ _ hz_41 hP hD hS dX2_guessAnew_66
def f_X2_guessOf (i1 : Int32) (guesses2 : Nat → Int32) : Option (Int32) :=
  gA 40 guesses2 i1 fun v_2 =>
  some v_2
set_option maxHeartbeats 4000000 in
set_option maxRecDepth 100000 in
theorem c_X2_guessOf (l : Launch) (D : va_G) (cI cJ : ClassId) (h2 labels2a guesses2a lengths2a words2a times2a totals2a sizes2a : Nat) (labels2 : Nat → Int32) (guesses2 : Nat → Int32) (lengths2 : Nat → Int32) (words2 : Nat → Int32) (times2 : Nat → Int32) (totals2 : Nat → Int32) (sizes2 : Nat → Int32) (rowCount2 : Int32) (addedUp2 : Int32) (addedDown2 : Int32) (i1 : Int32) (ret9 : Int32) (h : f_X2_guessOf i1 guesses2 = some ret9) : CI l D cI cJ yX2_guessOf wsX2_guessOf 0 0 [.ref h2, .int i1] (w2 cI cJ h2 labels2a guesses2a lengths2a words2a times2a totals2a sizes2a labels2 guesses2 lengths2 words2 times2 totals2 sizes2 rowCount2 addedUp2 addedDown2) (w2 cI cJ h2 labels2a guesses2a lengths2a words2a times2a totals2a sizes2a labels2 guesses2 lengths2 words2 times2 totals2 sizes2 rowCount2 addedUp2 addedDown2) ret9 := by
  refine entI (cc := cX2_guessOf) (maxL := 2) (by decide) rfl (Nat.le_of_ble_eq_true rfl) ?_
  intro p e s m args below meth c ls A Q X hret
  obtain ⟨hx, hb, hml, hts, hown, hK, hA, hP, hD, hS, hl, hnm⟩ := X
  have hown : s.vm.findClass RX2 = some m.cls := hown
  have hl : lv_has ls 2 [(0, .ref h2), (1, .int i1)] := hl
  have hw1 : (Cond.fieldLink RX2 15 "CountLearners$LabelledRows" "guesses" "[I").before args s = true := hts _ (by decide +kernel)
  have hinX2 : ∀ w ∈ wsX20, w ∈ wsX2_guessOf := by decide +kernel
  unfold f_X2_guessOf at h
  refine lv_aload_n hx hb dX2_guessOf_0 rfl (lv_at hl 0 rfl) ?_
  refine va_get (D := D) (ci := 1) (v := .ref guesses2a) (C := RX2) (T := TX2) (N := 10) hx hb hts hinX2 hown hK.1 hP 0 rfl rfl 1 (by decide) hw1 (fun _ h9 => h9) rfl dX2_guessOf_1 ?_
  refine lv_iload_n hx hb dX2_guessOf_4 rfl (lv_at hl 1 rfl) ?_
  obtain ⟨hi_1, h⟩ := gA_s h
  refine va_iald hx hb hK.1 hP 2 0 rfl rfl hi_1 dX2_guessOf_5 ?_
  refine lv_topi (fun v_2 ev_2 => ?_)
  have h := h v_2 ev_2
  cases h
  exact hret _ _ _ _ hP hD hS dX2_guessOf_6
def f_X2_size (rowCount2 : Int32) : Option (Int32) :=
  some rowCount2
set_option maxHeartbeats 4000000 in
set_option maxRecDepth 100000 in
theorem c_X2_size (l : Launch) (D : va_G) (cI cJ : ClassId) (h2 labels2a guesses2a lengths2a words2a times2a totals2a sizes2a : Nat) (labels2 : Nat → Int32) (guesses2 : Nat → Int32) (lengths2 : Nat → Int32) (words2 : Nat → Int32) (times2 : Nat → Int32) (totals2 : Nat → Int32) (sizes2 : Nat → Int32) (rowCount2 : Int32) (addedUp2 : Int32) (addedDown2 : Int32) (ret9 : Int32) (h : f_X2_size rowCount2 = some ret9) : CI l D cI cJ yX2_size wsX2_size 0 0 [.ref h2] (w2 cI cJ h2 labels2a guesses2a lengths2a words2a times2a totals2a sizes2a labels2 guesses2 lengths2 words2 times2 totals2 sizes2 rowCount2 addedUp2 addedDown2) (w2 cI cJ h2 labels2a guesses2a lengths2a words2a times2a totals2a sizes2a labels2 guesses2 lengths2 words2 times2 totals2 sizes2 rowCount2 addedUp2 addedDown2) ret9 := by
  refine entI (cc := cX2_size) (maxL := 1) (by decide) rfl (Nat.le_of_ble_eq_true rfl) ?_
  intro p e s m args below meth c ls A Q X hret
  obtain ⟨hx, hb, hml, hts, hown, hK, hA, hP, hD, hS, hl, hnm⟩ := X
  have hown : s.vm.findClass RX2 = some m.cls := hown
  have hl : lv_has ls 1 [(0, .ref h2)] := hl
  have hw1 : (Cond.fieldLink RX2 33 "CountLearners$LabelledRows" "rowCount" "I").before args s = true := hts _ (by decide +kernel)
  have hinX2 : ∀ w ∈ wsX20, w ∈ wsX2_size := by decide +kernel
  unfold f_X2_size at h
  refine lv_aload_n hx hb dX2_size_0 rfl (lv_at hl 0 rfl) ?_
  refine va_get (D := D) (ci := 1) (v := .int rowCount2) (C := RX2) (T := TX2) (N := 10) hx hb hts hinX2 hown hK.1 hP 0 rfl rfl 7 (by decide) hw1 (fun _ h9 => h9) rfl dX2_size_1 ?_
  cases h
  exact hret _ _ _ _ hP hD hS dX2_size_4
def f_X2_wordSet_L4 (i1 : Int32) (lengths2 : Nat → Int32) (words2 : Nat → Int32) : Nat → Int32 → Int32 → Option (Int32 × Int32)
  | 0, _, _ => none
  | n + 1, y3_3, y2_4 =>
  gA 40 lengths2 i1 fun v_8 =>
  if v_8 ≤ y3_3 then
    some (y3_3, y2_4)
  else
    gA 240 words2 ((i1 * 6) + y3_3) fun v_11 =>
    nm (α := Int32) ((y2_4 ||| (1 <<< (v_11 &&& 31)))) fun x2_12 =>
    nm (α := Int32) (y3_3 + 1) fun x3_13 =>
    f_X2_wordSet_L4 i1 lengths2 words2 n x3_13 x2_12
def f_X2_wordSet (i1 : Int32) (lengths2 : Nat → Int32) (words2 : Nat → Int32) : Option (Int32) :=
  nm (α := Int32) (0) fun x2_1 =>
  nm (α := Int32) (0) fun x3_2 =>
  Option.bind (f_X2_wordSet_L4 i1 lengths2 words2 FU x3_2 x2_1) fun (z3_14, z2_15) =>
  some z2_15
set_option maxHeartbeats 4000000 in
set_option maxRecDepth 100000 in
theorem c_X2_wordSet (l : Launch) (D : va_G) (cI cJ : ClassId) (h2 labels2a guesses2a lengths2a words2a times2a totals2a sizes2a : Nat) (labels2 : Nat → Int32) (guesses2 : Nat → Int32) (lengths2 : Nat → Int32) (words2 : Nat → Int32) (times2 : Nat → Int32) (totals2 : Nat → Int32) (sizes2 : Nat → Int32) (rowCount2 : Int32) (addedUp2 : Int32) (addedDown2 : Int32) (i1 : Int32) (ret9 : Int32) (h : f_X2_wordSet i1 lengths2 words2 = some ret9) : CI l D cI cJ yX2_wordSet wsX2_wordSet 0 0 [.ref h2, .int i1] (w2 cI cJ h2 labels2a guesses2a lengths2a words2a times2a totals2a sizes2a labels2 guesses2 lengths2 words2 times2 totals2 sizes2 rowCount2 addedUp2 addedDown2) (w2 cI cJ h2 labels2a guesses2a lengths2a words2a times2a totals2a sizes2a labels2 guesses2 lengths2 words2 times2 totals2 sizes2 rowCount2 addedUp2 addedDown2) ret9 := by
  refine entI (cc := cX2_wordSet) (maxL := 4) (by decide) rfl (Nat.le_of_ble_eq_true rfl) ?_
  intro p e s m args below meth c ls A Q X hret
  obtain ⟨hx, hb, hml, hts, hown, hK, hA, hP, hD, hS, hl, hnm⟩ := X
  have hown : s.vm.findClass RX2 = some m.cls := hown
  have hl : lv_has ls 4 [(0, .ref h2), (1, .int i1)] := hl
  have hw1 : (Cond.fieldLink RX2 18 "CountLearners$LabelledRows" "lengths" "[I").before args s = true := hts _ (by decide +kernel)
  have hinX2 : ∀ w ∈ wsX20, w ∈ wsX2_wordSet := by decide +kernel
  have hw3 : (Cond.fieldLink RX2 21 "CountLearners$LabelledRows" "words" "[I").before args s = true := hts _ (by decide +kernel)
  unfold f_X2_wordSet at h
  refine lv_iconst (v := 0) hx hb dX2_wordSet_0 (by decide) ?_
  refine lv_topi (fun x2_1 ex2_1 => ?_)
  have h := nm_s h x2_1 ex2_1
  refine lv_istore_n (lv' := [(2, .int x2_1), (0, .ref h2), (1, .int i1)]) hx hb dX2_wordSet_1 rfl hl (by decide) rfl (fun ls hl => ?_)
  refine lv_iconst (v := 0) hx hb dX2_wordSet_2 (by decide) ?_
  refine lv_topi (fun x3_2 ex3_2 => ?_)
  have h := nm_s h x3_2 ex3_2
  refine lv_istore_n (lv' := [(3, .int x3_2), (2, .int x2_1), (0, .ref h2), (1, .int i1)]) hx hb dX2_wordSet_3 rfl hl (by decide) rfl (fun ls hl => ?_)
  have L4 : ∀ (n : Nat) (y3_3 : Int32) (y2_4 : Int32) (z3_5 : Int32) (z2_6 : Int32), f_X2_wordSet_L4 i1 lengths2 words2 n y3_3 y2_4 = some (z3_5, z2_6) → ∀ (H : Heap) (locs : List Loc) (ls : Array Slot), va_P D vwK (w2 cI cJ h2 labels2a guesses2a lengths2a words2a times2a totals2a sizes2a labels2 guesses2 lengths2 words2 times2 totals2 sizes2 rowCount2 addedUp2 addedDown2) H → va_D A (w2 cI cJ h2 labels2a guesses2a lengths2a words2a times2a totals2a sizes2a labels2 guesses2 lengths2 words2 times2 totals2 sizes2 rowCount2 addedUp2 addedDown2) → va_S A s.heap H locs → lv_has ls 4 [(3, .int y3_3), (2, .int y2_4), (0, .ref h2), (1, .int i1)] → (∀ (H : Heap) (locs : List Loc) (ls : Array Slot), va_P D vwK (w2 cI cJ h2 labels2a guesses2a lengths2a words2a times2a totals2a sizes2a labels2 guesses2 lengths2 words2 times2 totals2 sizes2 rowCount2 addedUp2 addedDown2) H → va_D A (w2 cI cJ h2 labels2a guesses2a lengths2a words2a times2a totals2a sizes2a labels2 guesses2 lengths2 words2 times2 totals2 sizes2 rowCount2 addedUp2 addedDown2) → va_S A s.heap H locs → lv_has ls 4 [(2, .int z2_6)] → W p l e (rmOf 0 0) s m args below meth c H locs 0 0 Q (F0 m 36 ls [])) → W p l e (rmOf 0 0) s m args below meth c H locs 0 0 Q (F0 m 4 ls []) := by
    intro n
    induction n with
    | zero => intro y3_3 y2_4 z3_5 z2_6 h; rw [f_X2_wordSet_L4.eq_1] at h; cases h
    | succ n ih =>
      intro y3_3 y2_4 z3_5 z2_6 h H locs ls hP hD hS hl K
      rw [f_X2_wordSet_L4.eq_2] at h
      refine lv_iload_n hx hb dX2_wordSet_4 rfl (lv_at hl 0 rfl) ?_
      refine lv_aload_n hx hb dX2_wordSet_5 rfl (lv_at hl 2 rfl) ?_
      refine va_get (D := D) (ci := 1) (v := .ref lengths2a) (C := RX2) (T := TX2) (N := 10) hx hb hts hinX2 hown hK.1 hP 0 rfl rfl 2 (by decide) hw1 (fun _ h9 => h9) rfl dX2_wordSet_6 ?_
      refine lv_iload_n hx hb dX2_wordSet_9 rfl (lv_at hl 3 rfl) ?_
      obtain ⟨hi_7, h⟩ := gA_s h
      refine va_iald hx hb hK.1 hP 3 0 rfl rfl hi_7 dX2_wordSet_10 ?_
      refine lv_topi (fun v_8 ev_8 => ?_)
      have h := h v_8 ev_8
      refine lv_icmp_ge (tgt := 36) hx hb dX2_wordSet_11 (by decide) (fun c_9 => ?_) (fun c_9 => ?_)
      · have h := it_p c_9 h
        cases h
        exact K _ _ _ hP hD hS (lv_sub hl [1] rfl)
      · have h := it_n c_9 h
        refine lv_iload_n hx hb dX2_wordSet_14 rfl (lv_at hl 1 rfl) ?_
        refine lv_iconst (v := 1) hx hb dX2_wordSet_15 (by decide) ?_
        refine lv_aload_n hx hb dX2_wordSet_16 rfl (lv_at hl 2 rfl) ?_
        refine va_get (D := D) (ci := 1) (v := .ref words2a) (C := RX2) (T := TX2) (N := 10) hx hb hts hinX2 hown hK.1 hP 0 rfl rfl 3 (by decide) hw3 (fun _ h9 => h9) rfl dX2_wordSet_17 ?_
        refine lv_iload_n hx hb dX2_wordSet_20 rfl (lv_at hl 3 rfl) ?_
        refine lv_bipush (v := 6) hx hb dX2_wordSet_21 (by decide) ?_
        refine lv_imul hx hb dX2_wordSet_23 ?_
        refine lv_iload_n hx hb dX2_wordSet_24 rfl (lv_at hl 0 rfl) ?_
        refine lv_iadd hx hb dX2_wordSet_25 ?_
        obtain ⟨hi_10, h⟩ := gA_s h
        refine va_iald hx hb hK.1 hP 4 0 rfl rfl hi_10 dX2_wordSet_26 ?_
        refine lv_topi (fun v_11 ev_11 => ?_)
        have h := h v_11 ev_11
        refine lv_ishl hx hb dX2_wordSet_27 ?_
        refine lv_ior hx hb dX2_wordSet_28 ?_
        refine lv_topi (fun x2_12 ex2_12 => ?_)
        have h := nm_s h x2_12 ex2_12
        refine lv_istore_n (lv' := [(2, .int x2_12), (3, .int y3_3), (0, .ref h2), (1, .int i1)]) hx hb dX2_wordSet_29 rfl hl (by decide) rfl (fun ls hl => ?_)
        obtain ⟨x3_13, ex3_13⟩ : ∃ z : Int32, z = y3_3 + 1 := ⟨_, rfl⟩
        have h := nm_s h x3_13 ex3_13
        refine lv_iinc (v := x3_13) (lv' := [(3, .int x3_13), (2, .int x2_12), (0, .ref h2), (1, .int i1)]) hx hb dX2_wordSet_30 hl (k := 1) rfl (by rw [ex3_13]; rfl) (by decide) rfl (fun ls hl => ?_)
        refine lv_goto (tgt := 4) hx hb dX2_wordSet_33 (by decide) ?_
        exact ih _ _ _ _ h _ _ _ hP hD hS (lv_sub hl [0, 1, 2, 3] rfl) K
  obtain ⟨⟨z3_14, z2_15⟩, hl_16, h⟩ := bd_s h
  refine L4 FU x3_2 x2_1 _ _ hl_16 _ _ _ hP hD hS (lv_sub hl [0, 1, 2, 3] rfl) (fun H locs ls hP hD hS hl => ?_)
  refine lv_iload_n hx hb dX2_wordSet_36 rfl (lv_at hl 0 rfl) ?_
  cases h
  exact hret _ _ _ _ hP hD hS dX2_wordSet_37
def f_X2_labelledRows_L4 (labels2 : Nat → Int32) (rowCount2 : Int32) : Nat → Int32 → Int32 → Option (Int32 × Int32)
  | 0, _, _ => none
  | n + 1, y2_3, y1_4 =>
  if rowCount2 ≤ y2_3 then
    some (y2_3, y1_4)
  else
    gA 40 labels2 y2_3 fun v_9 =>
    if v_9 = (-1) then
      nm (α := Int32) (y2_3 + 1) fun x2_11 =>
      f_X2_labelledRows_L4 labels2 rowCount2 n x2_11 y1_4
    else
      nm (α := Int32) (y1_4 + 1) fun x1_12 =>
      nm (α := Int32) (y2_3 + 1) fun x2_13 =>
      f_X2_labelledRows_L4 labels2 rowCount2 n x2_13 x1_12
def f_X2_labelledRows (labels2 : Nat → Int32) (rowCount2 : Int32) : Option (Int32) :=
  nm (α := Int32) (0) fun x1_1 =>
  nm (α := Int32) (0) fun x2_2 =>
  Option.bind (f_X2_labelledRows_L4 labels2 rowCount2 FU x2_2 x1_1) fun (z2_14, z1_15) =>
  some z1_15
set_option maxHeartbeats 4000000 in
set_option maxRecDepth 100000 in
theorem c_X2_labelledRows (l : Launch) (D : va_G) (cI cJ : ClassId) (h2 labels2a guesses2a lengths2a words2a times2a totals2a sizes2a : Nat) (labels2 : Nat → Int32) (guesses2 : Nat → Int32) (lengths2 : Nat → Int32) (words2 : Nat → Int32) (times2 : Nat → Int32) (totals2 : Nat → Int32) (sizes2 : Nat → Int32) (rowCount2 : Int32) (addedUp2 : Int32) (addedDown2 : Int32) (ret9 : Int32) (h : f_X2_labelledRows labels2 rowCount2 = some ret9) : CI l D cI cJ yX2_labelledRows wsX2_labelledRows 0 0 [.ref h2] (w2 cI cJ h2 labels2a guesses2a lengths2a words2a times2a totals2a sizes2a labels2 guesses2 lengths2 words2 times2 totals2 sizes2 rowCount2 addedUp2 addedDown2) (w2 cI cJ h2 labels2a guesses2a lengths2a words2a times2a totals2a sizes2a labels2 guesses2 lengths2 words2 times2 totals2 sizes2 rowCount2 addedUp2 addedDown2) ret9 := by
  refine entI (cc := cX2_labelledRows) (maxL := 3) (by decide) rfl (Nat.le_of_ble_eq_true rfl) ?_
  intro p e s m args below meth c ls A Q X hret
  obtain ⟨hx, hb, hml, hts, hown, hK, hA, hP, hD, hS, hl, hnm⟩ := X
  have hown : s.vm.findClass RX2 = some m.cls := hown
  have hl : lv_has ls 3 [(0, .ref h2)] := hl
  have hw1 : (Cond.fieldLink RX2 33 "CountLearners$LabelledRows" "rowCount" "I").before args s = true := hts _ (by decide +kernel)
  have hinX2 : ∀ w ∈ wsX20, w ∈ wsX2_labelledRows := by decide +kernel
  have hw3 : (Cond.fieldLink RX2 11 "CountLearners$LabelledRows" "labels" "[I").before args s = true := hts _ (by decide +kernel)
  unfold f_X2_labelledRows at h
  refine lv_iconst (v := 0) hx hb dX2_labelledRows_0 (by decide) ?_
  refine lv_topi (fun x1_1 ex1_1 => ?_)
  have h := nm_s h x1_1 ex1_1
  refine lv_istore_n (lv' := [(1, .int x1_1), (0, .ref h2)]) hx hb dX2_labelledRows_1 rfl hl (by decide) rfl (fun ls hl => ?_)
  refine lv_iconst (v := 0) hx hb dX2_labelledRows_2 (by decide) ?_
  refine lv_topi (fun x2_2 ex2_2 => ?_)
  have h := nm_s h x2_2 ex2_2
  refine lv_istore_n (lv' := [(2, .int x2_2), (1, .int x1_1), (0, .ref h2)]) hx hb dX2_labelledRows_3 rfl hl (by decide) rfl (fun ls hl => ?_)
  have L4 : ∀ (n : Nat) (y2_3 : Int32) (y1_4 : Int32) (z2_5 : Int32) (z1_6 : Int32), f_X2_labelledRows_L4 labels2 rowCount2 n y2_3 y1_4 = some (z2_5, z1_6) → ∀ (H : Heap) (locs : List Loc) (ls : Array Slot), va_P D vwK (w2 cI cJ h2 labels2a guesses2a lengths2a words2a times2a totals2a sizes2a labels2 guesses2 lengths2 words2 times2 totals2 sizes2 rowCount2 addedUp2 addedDown2) H → va_D A (w2 cI cJ h2 labels2a guesses2a lengths2a words2a times2a totals2a sizes2a labels2 guesses2 lengths2 words2 times2 totals2 sizes2 rowCount2 addedUp2 addedDown2) → va_S A s.heap H locs → lv_has ls 3 [(2, .int y2_3), (1, .int y1_4), (0, .ref h2)] → (∀ (H : Heap) (locs : List Loc) (ls : Array Slot), va_P D vwK (w2 cI cJ h2 labels2a guesses2a lengths2a words2a times2a totals2a sizes2a labels2 guesses2 lengths2 words2 times2 totals2 sizes2 rowCount2 addedUp2 addedDown2) H → va_D A (w2 cI cJ h2 labels2a guesses2a lengths2a words2a times2a totals2a sizes2a labels2 guesses2 lengths2 words2 times2 totals2 sizes2 rowCount2 addedUp2 addedDown2) → va_S A s.heap H locs → lv_has ls 3 [(1, .int z1_6)] → W p l e (rmOf 0 0) s m args below meth c H locs 0 0 Q (F0 m 31 ls [])) → W p l e (rmOf 0 0) s m args below meth c H locs 0 0 Q (F0 m 4 ls []) := by
    intro n
    induction n with
    | zero => intro y2_3 y1_4 z2_5 z1_6 h; rw [f_X2_labelledRows_L4.eq_1] at h; cases h
    | succ n ih =>
      intro y2_3 y1_4 z2_5 z1_6 h H locs ls hP hD hS hl K
      rw [f_X2_labelledRows_L4.eq_2] at h
      refine lv_iload_n hx hb dX2_labelledRows_4 rfl (lv_at hl 0 rfl) ?_
      refine lv_aload_n hx hb dX2_labelledRows_5 rfl (lv_at hl 2 rfl) ?_
      refine va_get (D := D) (ci := 1) (v := .int rowCount2) (C := RX2) (T := TX2) (N := 10) hx hb hts hinX2 hown hK.1 hP 0 rfl rfl 7 (by decide) hw1 (fun _ h9 => h9) rfl dX2_labelledRows_6 ?_
      refine lv_icmp_ge (tgt := 31) hx hb dX2_labelledRows_9 (by decide) (fun c_7 => ?_) (fun c_7 => ?_)
      · have h := it_p c_7 h
        cases h
        exact K _ _ _ hP hD hS (lv_sub hl [1] rfl)
      · have h := it_n c_7 h
        refine lv_aload_n hx hb dX2_labelledRows_12 rfl (lv_at hl 2 rfl) ?_
        refine va_get (D := D) (ci := 1) (v := .ref labels2a) (C := RX2) (T := TX2) (N := 10) hx hb hts hinX2 hown hK.1 hP 0 rfl rfl 0 (by decide) hw3 (fun _ h9 => h9) rfl dX2_labelledRows_13 ?_
        refine lv_iload_n hx hb dX2_labelledRows_16 rfl (lv_at hl 0 rfl) ?_
        obtain ⟨hi_8, h⟩ := gA_s h
        refine va_iald hx hb hK.1 hP 1 0 rfl rfl hi_8 dX2_labelledRows_17 ?_
        refine lv_topi (fun v_9 ev_9 => ?_)
        have h := h v_9 ev_9
        refine lv_iconst (v := (-1)) hx hb dX2_labelledRows_18 (by decide) ?_
        refine lv_icmp_eq (tgt := 25) hx hb dX2_labelledRows_19 (by decide) (fun c_10 => ?_) (fun c_10 => ?_)
        · have h := it_p c_10 h
          obtain ⟨x2_11, ex2_11⟩ : ∃ z : Int32, z = y2_3 + 1 := ⟨_, rfl⟩
          have h := nm_s h x2_11 ex2_11
          refine lv_iinc (v := x2_11) (lv' := [(2, .int x2_11), (1, .int y1_4), (0, .ref h2)]) hx hb dX2_labelledRows_25 hl (k := 0) rfl (by rw [ex2_11]; rfl) (by decide) rfl (fun ls hl => ?_)
          refine lv_goto (tgt := 4) hx hb dX2_labelledRows_28 (by decide) ?_
          exact ih _ _ _ _ h _ _ _ hP hD hS (lv_sub hl [0, 1, 2] rfl) K
        · have h := it_n c_10 h
          obtain ⟨x1_12, ex1_12⟩ : ∃ z : Int32, z = y1_4 + 1 := ⟨_, rfl⟩
          have h := nm_s h x1_12 ex1_12
          refine lv_iinc (v := x1_12) (lv' := [(1, .int x1_12), (2, .int y2_3), (0, .ref h2)]) hx hb dX2_labelledRows_22 hl (k := 1) rfl (by rw [ex1_12]; rfl) (by decide) rfl (fun ls hl => ?_)
          obtain ⟨x2_13, ex2_13⟩ : ∃ z : Int32, z = y2_3 + 1 := ⟨_, rfl⟩
          have h := nm_s h x2_13 ex2_13
          refine lv_iinc (v := x2_13) (lv' := [(2, .int x2_13), (1, .int x1_12), (0, .ref h2)]) hx hb dX2_labelledRows_25 hl (k := 1) rfl (by rw [ex2_13]; rfl) (by decide) rfl (fun ls hl => ?_)
          refine lv_goto (tgt := 4) hx hb dX2_labelledRows_28 (by decide) ?_
          exact ih _ _ _ _ h _ _ _ hP hD hS (lv_sub hl [0, 1, 2] rfl) K
  obtain ⟨⟨z2_14, z1_15⟩, hl_16, h⟩ := bd_s h
  refine L4 FU x2_2 x1_1 _ _ hl_16 _ _ _ hP hD hS (lv_sub hl [0, 1, 2] rfl) (fun H locs ls hP hD hS hl => ?_)
  refine lv_iload_n hx hb dX2_labelledRows_31 rfl (lv_at hl 0 rfl) ?_
  cases h
  exact hret _ _ _ _ hP hD hS dX2_labelledRows_32
