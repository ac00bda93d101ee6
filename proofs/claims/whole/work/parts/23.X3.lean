def f_X3_isFull (textLength3 : Int32) : Option (Int32) :=
  if textLength3 < 60 then
    some 0
  else
    some 1
set_option maxHeartbeats 4000000 in
set_option maxRecDepth 100000 in
theorem c_X3_isFull (l : Launch) (D : va_G) (cI cJ : ClassId) (h3 text3a behind3a uppers3a : Nat) (text3 : Nat → Int32) (behind3 : Nat → Int32) (uppers3 : Nat → Int64) (lower3 : Int64) (textLength3 : Int32) (ret9 : Int32) (h : f_X3_isFull textLength3 = some ret9) : CI l D cI cJ yX3_isFull wsX3_isFull 0 0 [.ref h3] (w3 cI cJ h3 text3a behind3a uppers3a text3 behind3 uppers3 lower3 textLength3) (w3 cI cJ h3 text3a behind3a uppers3a text3 behind3 uppers3 lower3 textLength3) ret9 := by
  refine entZ (cc := cX3_isFull) (maxL := 1) (by decide) rfl (Nat.le_of_ble_eq_true rfl) ?_
  intro p e s m args below meth c ls A Q X hret
  obtain ⟨hx, hb, hml, hts, hown, hK, hA, hP, hD, hS, hl, hnm⟩ := X
  have hown : s.vm.findClass RX3 = some m.cls := hown
  have hl : lv_has ls 1 [(0, .ref h3)] := hl
  have hw1 : (Cond.fieldLink RX3 26 "CountLearners$TextTables" "textLength" "I").before args s = true := hts _ (by decide +kernel)
  have hinX3 : ∀ w ∈ wsX30, w ∈ wsX3_isFull := by decide +kernel
  unfold f_X3_isFull at h
  refine lv_aload_n hx hb dX3_isFull_0 rfl (lv_at hl 0 rfl) ?_
  refine va_get (D := D) (ci := 2) (v := .int textLength3) (C := RX3) (T := TX3) (N := 5) hx hb hts hinX3 hown hK.1 hP 0 rfl rfl 4 (by decide) hw1 (fun _ h9 => h9) rfl dX3_isFull_1 ?_
  refine lv_bipush (v := 60) hx hb dX3_isFull_4 (by decide) ?_
  refine lv_icmp_lt (tgt := 13) hx hb dX3_isFull_6 (by decide) (fun c_1 => ?_) (fun c_1 => ?_)
  · have h := it_p c_1 h
    refine lv_iconst (v := 0) hx hb dX3_isFull_13 (by decide) ?_
    cases h
    exact hret _ _ _ _ (Or.inl rfl) hP hD hS dX3_isFull_14
  · have h := it_n c_1 h
    refine lv_iconst (v := 1) hx hb dX3_isFull_9 (by decide) ?_
    refine lv_goto (tgt := 14) hx hb dX3_isFull_10 (by decide) ?_
    cases h
    exact hret _ _ _ _ (Or.inr rfl) hP hD hS dX3_isFull_14
def f_X3_append (i1 : Int32) (text3 : Nat → Int32) (textLength3 : Int32) : Option (Int32 × (Nat → Int32) × Int32) :=
  sI 60 text3 textLength3 i1 fun text3_2 =>
  nm (α := Int32) ((textLength3 + 1)) fun textLength3_3 =>
  some (textLength3_3, text3_2, textLength3_3)
set_option maxHeartbeats 4000000 in
set_option maxRecDepth 100000 in
theorem c_X3_append (l : Launch) (D : va_G) (cI cJ : ClassId) (h3 text3a behind3a uppers3a : Nat) (text3 : Nat → Int32) (behind3 : Nat → Int32) (uppers3 : Nat → Int64) (lower3 : Int64) (textLength3 : Int32) (i1 : Int32) (ret9 : Int32) (text3z : Nat → Int32) (textLength3z : Int32) (h : f_X3_append i1 text3 textLength3 = some (ret9, text3z, textLength3z)) : CI l D cI cJ yX3_append wsX3_append 0 0 [.ref h3, .int i1] (w3 cI cJ h3 text3a behind3a uppers3a text3 behind3 uppers3 lower3 textLength3) (w3 cI cJ h3 text3a behind3a uppers3a text3z behind3 uppers3 lower3 textLength3z) ret9 := by
  refine entI (cc := cX3_append) (maxL := 2) (by decide) rfl (Nat.le_of_ble_eq_true rfl) ?_
  intro p e s m args below meth c ls A Q X hret
  obtain ⟨hx, hb, hml, hts, hown, hK, hA, hP, hD, hS, hl, hnm⟩ := X
  have hown : s.vm.findClass RX3 = some m.cls := hown
  have hl : lv_has ls 2 [(0, .ref h3), (1, .int i1)] := hl
  have hw1 : (Cond.fieldLink RX3 11 "CountLearners$TextTables" "text" "[I").before args s = true := hts _ (by decide +kernel)
  have hinX3 : ∀ w ∈ wsX30, w ∈ wsX3_append := by decide +kernel
  have hw3 : (Cond.fieldLink RX3 26 "CountLearners$TextTables" "textLength" "I").before args s = true := hts _ (by decide +kernel)
  unfold f_X3_append at h
  refine lv_aload_n hx hb dX3_append_0 rfl (lv_at hl 0 rfl) ?_
  refine va_get (D := D) (ci := 2) (v := .ref text3a) (C := RX3) (T := TX3) (N := 5) hx hb hts hinX3 hown hK.1 hP 0 rfl rfl 0 (by decide) hw1 (fun _ h9 => h9) rfl dX3_append_1 ?_
  refine lv_aload_n hx hb dX3_append_4 rfl (lv_at hl 0 rfl) ?_
  refine va_get (D := D) (ci := 2) (v := .int textLength3) (C := RX3) (T := TX3) (N := 5) hx hb hts hinX3 hown hK.1 hP 0 rfl rfl 4 (by decide) hw3 (fun _ h9 => h9) rfl dX3_append_5 ?_
  refine lv_iload_n hx hb dX3_append_8 rfl (lv_at hl 1 rfl) ?_
  obtain ⟨hi_1, h⟩ := sI_s h
  refine va_iast hx hb hK.1 hP hD hS 1 0 rfl rfl hi_1 dX3_append_9 (fun H locs hP hD hS => ?_)
  obtain ⟨text3_2, etext3_2⟩ : ∃ z, z = upd text3 (Int32.toNatClampNeg textLength3) i1 := ⟨_, rfl⟩
  have h := h text3_2 etext3_2
  rw [← etext3_2] at hP hD
  have hP : va_P D vwK (w3 cI cJ h3 text3a behind3a uppers3a text3_2 behind3 uppers3 lower3 textLength3) H := hP
  have hD : va_D A (w3 cI cJ h3 text3a behind3a uppers3a text3_2 behind3 uppers3 lower3 textLength3) := hD
  refine lv_aload_n hx hb dX3_append_10 rfl (lv_at hl 0 rfl) ?_
  refine lv_dup hx hb dX3_append_11 rfl ?_
  refine va_get (D := D) (ci := 2) (v := .int textLength3) (C := RX3) (T := TX3) (N := 5) hx hb hts hinX3 hown hK.1 hP 0 rfl rfl 4 (by decide) hw3 (fun _ h9 => h9) rfl dX3_append_12 ?_
  refine lv_iconst (v := 1) hx hb dX3_append_15 (by decide) ?_
  refine lv_iadd hx hb dX3_append_16 ?_
  refine lv_topi (fun textLength3_3 etextLength3_3 => ?_)
  have h := nm_s h textLength3_3 etextLength3_3
  refine va_put (D := D) (ci := 2) (v := .int textLength3_3) (ty := .int) (C := RX3) (T := TX3) (N := 5) hx hb hts hinX3 tyX3 tyX3_ok nmX3 hown hK.1 hP hD hS 0 rfl rfl 4 (by decide) hw3 (fun _ h9 => h9) rfl (by decide +kernel) rfl rfl (Nat.le_of_ble_eq_true rfl) dX3_append_17 (fun H locs hP hD hS => ?_)
  have hP : va_P D vwK (w3 cI cJ h3 text3a behind3a uppers3a text3_2 behind3 uppers3 lower3 textLength3_3) H := hP
  have hD : va_D A (w3 cI cJ h3 text3a behind3a uppers3a text3_2 behind3 uppers3 lower3 textLength3_3) := hD
  refine lv_aload_n hx hb dX3_append_20 rfl (lv_at hl 0 rfl) ?_
  refine va_get (D := D) (ci := 2) (v := .int textLength3_3) (C := RX3) (T := TX3) (N := 5) hx hb hts hinX3 hown hK.1 hP 0 rfl rfl 4 (by decide) hw3 (fun _ h9 => h9) rfl dX3_append_21 ?_
  cases h
  exact hret _ _ _ _ hP hD hS dX3_append_24
def f_X3_fillFirst_L2 : Nat → Int32 → (Nat → Int64) → Option (Int32 × (Nat → Int64))
  | 0, _, _ => none
  | n + 1, y1_2, uppers3_3 =>
  if 8 ≤ y1_2 then
    some (y1_2, uppers3_3)
  else
    sL 8 uppers3_3 y1_2 1 fun uppers3_8 =>
    nm (α := Int32) (y1_2 + 1) fun x1_9 =>
    f_X3_fillFirst_L2 n x1_9 uppers3_8
def f_X3_fillFirst_L23 (text3 : Nat → Int32) (textLength3 : Int32) : Nat → Int32 → (Nat → Int64) → Option (Int32 × (Nat → Int64))
  | 0, _, _ => none
  | n + 1, y1_14, uppers3_15 =>
  if textLength3 ≤ y1_14 then
    some (y1_14, uppers3_15)
  else
    gA 60 text3 y1_14 fun v_20 =>
    gA 8 uppers3_15 v_20 fun v_22 =>
    sL 8 uppers3_15 v_20 (v_22 + 1) fun uppers3_24 =>
    nm (α := Int32) (y1_14 + 1) fun x1_25 =>
    f_X3_fillFirst_L23 text3 textLength3 n x1_25 uppers3_24
def f_X3_fillFirst (text3 : Nat → Int32) (uppers3 : Nat → Int64) (lower3 : Int64) (textLength3 : Int32) : Option ((Nat → Int64) × Int64) :=
  nm (α := Int32) (0) fun x1_1 =>
  Option.bind (f_X3_fillFirst_L2 FU x1_1 uppers3) fun (z1_10, uppers3_11) =>
  nm (α := Int32) (0) fun x1_13 =>
  Option.bind (f_X3_fillFirst_L23 text3 textLength3 FU x1_13 uppers3_11) fun (z1_26, uppers3_27) =>
  nm (α := Int64) ((Int32.toInt64 (textLength3 + 8))) fun lower3_29 =>
  some (uppers3_27, lower3_29)
set_option maxHeartbeats 4000000 in
set_option maxRecDepth 100000 in
theorem c_X3_fillFirst (l : Launch) (D : va_G) (cI cJ : ClassId) (h3 text3a behind3a uppers3a : Nat) (text3 : Nat → Int32) (behind3 : Nat → Int32) (uppers3 : Nat → Int64) (lower3 : Int64) (textLength3 : Int32) (uppers3z : Nat → Int64) (lower3z : Int64) (h : f_X3_fillFirst text3 uppers3 lower3 textLength3 = some (uppers3z, lower3z)) : CV l D cI cJ yX3_fillFirst wsX3_fillFirst 0 0 [.ref h3] (w3 cI cJ h3 text3a behind3a uppers3a text3 behind3 uppers3 lower3 textLength3) (w3 cI cJ h3 text3a behind3a uppers3a text3 behind3 uppers3z lower3z textLength3) := by
  refine entV (cc := cX3_fillFirst) (maxL := 2) (by decide) rfl (Nat.le_of_ble_eq_true rfl) ?_
  intro p e s m args below meth c ls A Q X hret
  obtain ⟨hx, hb, hml, hts, hown, hK, hA, hP, hD, hS, hl, hnm⟩ := X
  have hown : s.vm.findClass RX3 = some m.cls := hown
  have hl : lv_has ls 2 [(0, .ref h3)] := hl
  have hw1 : (Cond.fieldLink RX3 18 "CountLearners$TextTables" "uppers" "[J").before args s = true := hts _ (by decide +kernel)
  have hinX3 : ∀ w ∈ wsX30, w ∈ wsX3_fillFirst := by decide +kernel
  have hw3 : (Cond.fieldLink RX3 26 "CountLearners$TextTables" "textLength" "I").before args s = true := hts _ (by decide +kernel)
  have hw4 : (Cond.fieldLink RX3 11 "CountLearners$TextTables" "text" "[I").before args s = true := hts _ (by decide +kernel)
  have hw5 : (Cond.fieldLink RX3 22 "CountLearners$TextTables" "lower" "J").before args s = true := hts _ (by decide +kernel)
  unfold f_X3_fillFirst at h
  refine lv_iconst (v := 0) hx hb dX3_fillFirst_0 (by decide) ?_
  refine lv_topi (fun x1_1 ex1_1 => ?_)
  have h := nm_s h x1_1 ex1_1
  refine lv_istore_n (lv' := [(1, .int x1_1), (0, .ref h3)]) hx hb dX3_fillFirst_1 rfl hl (by decide) rfl (fun ls hl => ?_)
  have L2 : ∀ (n : Nat) (y1_2 : Int32) (uppers3_3 : Nat → Int64) (z1_4 : Int32) (uppers3_5 : Nat → Int64), f_X3_fillFirst_L2 n y1_2 uppers3_3 = some (z1_4, uppers3_5) → ∀ (H : Heap) (locs : List Loc) (ls : Array Slot), va_P D vwK (w3 cI cJ h3 text3a behind3a uppers3a text3 behind3 uppers3_3 lower3 textLength3) H → va_D A (w3 cI cJ h3 text3a behind3a uppers3a text3 behind3 uppers3_3 lower3 textLength3) → va_S A s.heap H locs → lv_has ls 2 [(1, .int y1_2), (0, .ref h3)] → (∀ (H : Heap) (locs : List Loc) (ls : Array Slot), va_P D vwK (w3 cI cJ h3 text3a behind3a uppers3a text3 behind3 uppers3_5 lower3 textLength3) H → va_D A (w3 cI cJ h3 text3a behind3a uppers3a text3 behind3 uppers3_5 lower3 textLength3) → va_S A s.heap H locs → lv_has ls 2 [(0, .ref h3)] → W p l e (rmOf 0 0) s m args below meth c H locs 0 0 Q (F0 m 21 ls [])) → W p l e (rmOf 0 0) s m args below meth c H locs 0 0 Q (F0 m 2 ls []) := by
    intro n
    induction n with
    | zero => intro y1_2 uppers3_3 z1_4 uppers3_5 h; rw [f_X3_fillFirst_L2.eq_1] at h; cases h
    | succ n ih =>
      intro y1_2 uppers3_3 z1_4 uppers3_5 h H locs ls hP hD hS hl K
      rw [f_X3_fillFirst_L2.eq_2] at h
      refine lv_iload_n hx hb dX3_fillFirst_2 rfl (lv_at hl 0 rfl) ?_
      refine lv_bipush (v := 8) hx hb dX3_fillFirst_3 (by decide) ?_
      refine lv_icmp_ge (tgt := 21) hx hb dX3_fillFirst_5 (by decide) (fun c_6 => ?_) (fun c_6 => ?_)
      · have h := it_p c_6 h
        cases h
        exact K _ _ _ hP hD hS (lv_sub hl [1] rfl)
      · have h := it_n c_6 h
        refine lv_aload_n hx hb dX3_fillFirst_8 rfl (lv_at hl 1 rfl) ?_
        refine va_get (D := D) (ci := 2) (v := .ref uppers3a) (C := RX3) (T := TX3) (N := 5) hx hb hts hinX3 hown hK.1 hP 0 rfl rfl 2 (by decide) hw1 (fun _ h9 => h9) rfl dX3_fillFirst_9 ?_
        refine lv_iload_n hx hb dX3_fillFirst_12 rfl (lv_at hl 0 rfl) ?_
        refine lv_lconst (v := 1) hx hb dX3_fillFirst_13 (by decide) ?_
        obtain ⟨hi_7, h⟩ := sL_s h
        refine va_last hx hb hK.1 hP hD hS 3 1 rfl rfl hi_7 dX3_fillFirst_14 (fun H locs hP hD hS => ?_)
        obtain ⟨uppers3_8, euppers3_8⟩ : ∃ z, z = vp_updL uppers3_3 (Int32.toNatClampNeg y1_2) 1 := ⟨_, rfl⟩
        have h := h uppers3_8 euppers3_8
        rw [← euppers3_8] at hP hD
        have hP : va_P D vwK (w3 cI cJ h3 text3a behind3a uppers3a text3 behind3 uppers3_8 lower3 textLength3) H := hP
        have hD : va_D A (w3 cI cJ h3 text3a behind3a uppers3a text3 behind3 uppers3_8 lower3 textLength3) := hD
        obtain ⟨x1_9, ex1_9⟩ : ∃ z : Int32, z = y1_2 + 1 := ⟨_, rfl⟩
        have h := nm_s h x1_9 ex1_9
        refine lv_iinc (v := x1_9) (lv' := [(1, .int x1_9), (0, .ref h3)]) hx hb dX3_fillFirst_15 hl (k := 0) rfl (by rw [ex1_9]; rfl) (by decide) rfl (fun ls hl => ?_)
        refine lv_goto (tgt := 2) hx hb dX3_fillFirst_18 (by decide) ?_
        exact ih _ _ _ _ h _ _ _ hP hD hS (lv_sub hl [0, 1] rfl) K
  obtain ⟨⟨z1_10, uppers3_11⟩, hl_12, h⟩ := bd_s h
  refine L2 FU x1_1 uppers3 _ _ hl_12 _ _ _ hP hD hS (lv_sub hl [0, 1] rfl) (fun H locs ls hP hD hS hl => ?_)
  refine lv_iconst (v := 0) hx hb dX3_fillFirst_21 (by decide) ?_
  refine lv_topi (fun x1_13 ex1_13 => ?_)
  have h := nm_s h x1_13 ex1_13
  refine lv_istore_n (lv' := [(1, .int x1_13), (0, .ref h3)]) hx hb dX3_fillFirst_22 rfl hl (by decide) rfl (fun ls hl => ?_)
  have L23 : ∀ (n : Nat) (y1_14 : Int32) (uppers3_15 : Nat → Int64) (z1_16 : Int32) (uppers3_17 : Nat → Int64), f_X3_fillFirst_L23 text3 textLength3 n y1_14 uppers3_15 = some (z1_16, uppers3_17) → ∀ (H : Heap) (locs : List Loc) (ls : Array Slot), va_P D vwK (w3 cI cJ h3 text3a behind3a uppers3a text3 behind3 uppers3_15 lower3 textLength3) H → va_D A (w3 cI cJ h3 text3a behind3a uppers3a text3 behind3 uppers3_15 lower3 textLength3) → va_S A s.heap H locs → lv_has ls 2 [(1, .int y1_14), (0, .ref h3)] → (∀ (H : Heap) (locs : List Loc) (ls : Array Slot), va_P D vwK (w3 cI cJ h3 text3a behind3a uppers3a text3 behind3 uppers3_17 lower3 textLength3) H → va_D A (w3 cI cJ h3 text3a behind3a uppers3a text3 behind3 uppers3_17 lower3 textLength3) → va_S A s.heap H locs → lv_has ls 2 [(0, .ref h3)] → W p l e (rmOf 0 0) s m args below meth c H locs 0 0 Q (F0 m 52 ls [])) → W p l e (rmOf 0 0) s m args below meth c H locs 0 0 Q (F0 m 23 ls []) := by
    intro n
    induction n with
    | zero => intro y1_14 uppers3_15 z1_16 uppers3_17 h; rw [f_X3_fillFirst_L23.eq_1] at h; cases h
    | succ n ih =>
      intro y1_14 uppers3_15 z1_16 uppers3_17 h H locs ls hP hD hS hl K
      rw [f_X3_fillFirst_L23.eq_2] at h
      refine lv_iload_n hx hb dX3_fillFirst_23 rfl (lv_at hl 0 rfl) ?_
      refine lv_aload_n hx hb dX3_fillFirst_24 rfl (lv_at hl 1 rfl) ?_
      refine va_get (D := D) (ci := 2) (v := .int textLength3) (C := RX3) (T := TX3) (N := 5) hx hb hts hinX3 hown hK.1 hP 0 rfl rfl 4 (by decide) hw3 (fun _ h9 => h9) rfl dX3_fillFirst_25 ?_
      refine lv_icmp_ge (tgt := 52) hx hb dX3_fillFirst_28 (by decide) (fun c_18 => ?_) (fun c_18 => ?_)
      · have h := it_p c_18 h
        cases h
        exact K _ _ _ hP hD hS (lv_sub hl [1] rfl)
      · have h := it_n c_18 h
        refine lv_aload_n hx hb dX3_fillFirst_31 rfl (lv_at hl 1 rfl) ?_
        refine va_get (D := D) (ci := 2) (v := .ref uppers3a) (C := RX3) (T := TX3) (N := 5) hx hb hts hinX3 hown hK.1 hP 0 rfl rfl 2 (by decide) hw1 (fun _ h9 => h9) rfl dX3_fillFirst_32 ?_
        refine lv_aload_n hx hb dX3_fillFirst_35 rfl (lv_at hl 1 rfl) ?_
        refine va_get (D := D) (ci := 2) (v := .ref text3a) (C := RX3) (T := TX3) (N := 5) hx hb hts hinX3 hown hK.1 hP 0 rfl rfl 0 (by decide) hw4 (fun _ h9 => h9) rfl dX3_fillFirst_36 ?_
        refine lv_iload_n hx hb dX3_fillFirst_39 rfl (lv_at hl 0 rfl) ?_
        obtain ⟨hi_19, h⟩ := gA_s h
        refine va_iald hx hb hK.1 hP 1 0 rfl rfl hi_19 dX3_fillFirst_40 ?_
        refine lv_topi (fun v_20 ev_20 => ?_)
        have h := h v_20 ev_20
        refine lv_dup2_11 hx hb dX3_fillFirst_41 rfl rfl ?_
        obtain ⟨hi_21, h⟩ := gA_s h
        refine va_lald hx hb hK.1 hP 3 1 rfl rfl hi_21 dX3_fillFirst_42 ?_
        refine lv_topl (fun v_22 ev_22 => ?_)
        have h := h v_22 ev_22
        refine lv_lconst (v := 1) hx hb dX3_fillFirst_43 (by decide) ?_
        refine lv_ladd hx hb dX3_fillFirst_44 ?_
        obtain ⟨hi_23, h⟩ := sL_s h
        refine va_last hx hb hK.1 hP hD hS 3 1 rfl rfl hi_23 dX3_fillFirst_45 (fun H locs hP hD hS => ?_)
        obtain ⟨uppers3_24, euppers3_24⟩ : ∃ z, z = vp_updL uppers3_15 (Int32.toNatClampNeg v_20) (v_22 + 1) := ⟨_, rfl⟩
        have h := h uppers3_24 euppers3_24
        rw [← euppers3_24] at hP hD
        have hP : va_P D vwK (w3 cI cJ h3 text3a behind3a uppers3a text3 behind3 uppers3_24 lower3 textLength3) H := hP
        have hD : va_D A (w3 cI cJ h3 text3a behind3a uppers3a text3 behind3 uppers3_24 lower3 textLength3) := hD
        obtain ⟨x1_25, ex1_25⟩ : ∃ z : Int32, z = y1_14 + 1 := ⟨_, rfl⟩
        have h := nm_s h x1_25 ex1_25
        refine lv_iinc (v := x1_25) (lv' := [(1, .int x1_25), (0, .ref h3)]) hx hb dX3_fillFirst_46 hl (k := 0) rfl (by rw [ex1_25]; rfl) (by decide) rfl (fun ls hl => ?_)
        refine lv_goto (tgt := 23) hx hb dX3_fillFirst_49 (by decide) ?_
        exact ih _ _ _ _ h _ _ _ hP hD hS (lv_sub hl [0, 1] rfl) K
  obtain ⟨⟨z1_26, uppers3_27⟩, hl_28, h⟩ := bd_s h
  refine L23 FU x1_13 uppers3_11 _ _ hl_28 _ _ _ hP hD hS (lv_sub hl [0, 1] rfl) (fun H locs ls hP hD hS hl => ?_)
  refine lv_aload_n hx hb dX3_fillFirst_52 rfl (lv_at hl 0 rfl) ?_
  refine lv_aload_n hx hb dX3_fillFirst_53 rfl (lv_at hl 0 rfl) ?_
  refine va_get (D := D) (ci := 2) (v := .int textLength3) (C := RX3) (T := TX3) (N := 5) hx hb hts hinX3 hown hK.1 hP 0 rfl rfl 4 (by decide) hw3 (fun _ h9 => h9) rfl dX3_fillFirst_54 ?_
  refine lv_bipush (v := 8) hx hb dX3_fillFirst_57 (by decide) ?_
  refine lv_iadd hx hb dX3_fillFirst_59 ?_
  refine lv_i2l (v := (Int32.toInt64 (textLength3 + 8))) hx hb dX3_fillFirst_60 rfl ?_
  refine lv_topl (fun lower3_29 elower3_29 => ?_)
  have h := nm_s h lower3_29 elower3_29
  refine va_put (D := D) (ci := 2) (v := .long lower3_29) (ty := .long) (C := RX3) (T := TX3) (N := 5) hx hb hts hinX3 tyX3 tyX3_ok nmX3 hown hK.1 hP hD hS 0 rfl rfl 3 (by decide) hw5 (fun _ h9 => h9) rfl (by decide +kernel) rfl rfl (Nat.le_of_ble_eq_true rfl) dX3_fillFirst_61 (fun H locs hP hD hS => ?_)
  have hP : va_P D vwK (w3 cI cJ h3 text3a behind3a uppers3a text3 behind3 uppers3_27 lower3_29 textLength3) H := hP
  have hD : va_D A (w3 cI cJ h3 text3a behind3a uppers3a text3 behind3 uppers3_27 lower3_29 textLength3) := hD
  cases h
  exact hret _ _ _ _ hP hD hS dX3_fillFirst_64
def f_X3_countBehind_L10 (i1 : Int32) (i2 : Int32) (text3 : Nat → Int32) (textLength3 : Int32) : Nat → Int32 → (Nat → Int32) → Option (Int32 × (Nat → Int32))
  | 0, _, _ => none
  | n + 1, y3_4, behind3_5 =>
  if textLength3 ≤ y3_4 then
    some (y3_4, behind3_5)
  else
    gA 60 text3 (y3_4 - 1) fun v_10 =>
    if v_10 = i2 then
      if i1 = (-1) then
        gA 60 text3 y3_4 fun v_15 =>
        gA 8 behind3_5 v_15 fun v_17 =>
        sI 8 behind3_5 v_15 (v_17 + 1) fun behind3_19 =>
        nm (α := Int32) (y3_4 + 1) fun x3_20 =>
        f_X3_countBehind_L10 i1 i2 text3 textLength3 n x3_20 behind3_19
      else
        if y3_4 < 2 then
          nm (α := Int32) (y3_4 + 1) fun x3_22 =>
          f_X3_countBehind_L10 i1 i2 text3 textLength3 n x3_22 behind3_5
        else
          gA 60 text3 (y3_4 - 2) fun v_24 =>
          if v_24 = i1 then
            gA 60 text3 y3_4 fun v_28 =>
            gA 8 behind3_5 v_28 fun v_30 =>
            sI 8 behind3_5 v_28 (v_30 + 1) fun behind3_32 =>
            nm (α := Int32) (y3_4 + 1) fun x3_33 =>
            f_X3_countBehind_L10 i1 i2 text3 textLength3 n x3_33 behind3_32
          else
            nm (α := Int32) (y3_4 + 1) fun x3_26 =>
            f_X3_countBehind_L10 i1 i2 text3 textLength3 n x3_26 behind3_5
    else
      nm (α := Int32) (y3_4 + 1) fun x3_12 =>
      f_X3_countBehind_L10 i1 i2 text3 textLength3 n x3_12 behind3_5
def f_X3_countBehind (i1 : Int32) (i2 : Int32) (text3 : Nat → Int32) (behind3 : Nat → Int32) (textLength3 : Int32) : Option ((Nat → Int32)) :=
  Option.bind (f_X5_setAll 8 behind3 0) fun behind3_1 =>
  nm (α := Int32) (1) fun x3_3 =>
  Option.bind (f_X3_countBehind_L10 i1 i2 text3 textLength3 FU x3_3 behind3_1) fun (z3_34, behind3_35) =>
  some behind3_35
set_option maxHeartbeats 4000000 in
set_option maxRecDepth 100000 in
theorem c_X3_countBehind (l : Launch) (D : va_G) (cI cJ : ClassId) (h3 text3a behind3a uppers3a : Nat) (text3 : Nat → Int32) (behind3 : Nat → Int32) (uppers3 : Nat → Int64) (lower3 : Int64) (textLength3 : Int32) (i1 : Int32) (i2 : Int32) (behind3z : Nat → Int32) (h : f_X3_countBehind i1 i2 text3 behind3 textLength3 = some behind3z) : CV l D cI cJ yX3_countBehind wsX3_countBehind 1 22 [.ref h3, .int i1, .int i2] (w3 cI cJ h3 text3a behind3a uppers3a text3 behind3 uppers3 lower3 textLength3) (w3 cI cJ h3 text3a behind3a uppers3a text3 behind3z uppers3 lower3 textLength3) := by
  refine entV (cc := cX3_countBehind) (maxL := 4) (by decide) rfl (Nat.le_of_ble_eq_true rfl) ?_
  intro p e s m args below meth c ls A Q X hret
  obtain ⟨hx, hb, hml, hts, hown, hK, hA, hP, hD, hS, hl, hnm⟩ := X
  have hown : s.vm.findClass RX3 = some m.cls := hown
  have hl : lv_has ls 4 [(0, .ref h3), (1, .int i1), (2, .int i2)] := hl
  have hw1 : (Cond.fieldLink RX3 15 "CountLearners$TextTables" "behind" "[I").before args s = true := hts _ (by decide +kernel)
  have hinX3 : ∀ w ∈ wsX30, w ∈ wsX3_countBehind := by decide +kernel
  have hw3 : (Cond.initialized RX5).before args s = true := hts _ (by decide +kernel)
  have hw4 : (Cond.static yX5_setAll).before args s = true := hts _ (by decide +kernel)
  have hw5 : (Cond.fieldLink RX3 26 "CountLearners$TextTables" "textLength" "I").before args s = true := hts _ (by decide +kernel)
  have hw6 : (Cond.fieldLink RX3 11 "CountLearners$TextTables" "text" "[I").before args s = true := hts _ (by decide +kernel)
  unfold f_X3_countBehind at h
  refine lv_aload_n hx hb dX3_countBehind_0 rfl (lv_at hl 0 rfl) ?_
  refine va_get (D := D) (ci := 2) (v := .ref behind3a) (C := RX3) (T := TX3) (N := 5) hx hb hts hinX3 hown hK.1 hP 0 rfl rfl 1 (by decide) hw1 (fun _ h9 => h9) rfl dX3_countBehind_1 ?_
  refine lv_iconst (v := 0) hx hb dX3_countBehind_4 (by decide) ?_
  obtain ⟨behind3_1, hc_2, h⟩ := bd_s h
  refine callNv (As := [.ref behind3a, .int 0]) (rest := []) (ws2 := (w3 cI cJ h3 text3a behind3a uppers3a text3 behind3_1 uppers3 lower3 textLength3)) ⟨hx, hb, hml, hown, hts⟩ (c_X5_setAll l D cI cJ behind3a 8 behind3 0 behind3_1 hc_2) ⟨va_cnB 2 hts gX3_countBehind_X5_setAll_n40 rfl rfl rfl hK.2.2.2.1 hw3 (by decide +kernel) ⟨Nat.le_of_ble_eq_true rfl, Nat.le_of_ble_eq_true rfl⟩, hw4, trivial⟩ hK hP hD hS hA [2] [0, 1, 3] [0, 1, 3, 2] ⟨[(h3, .inr (2, [.ref text3a, .ref behind3a, .ref uppers3a, .long lower3, .int textLength3])), (text3a, .inl (cI, 60, .inl text3)), (uppers3a, .inl (cJ, 8, .inr (.inl uppers3)))], rfl, rfl, rfl, rfl, by decide, rfl, rfl⟩ rfl hl.1 rfl (Nat.le_of_ble_eq_true rfl) dX3_countBehind_5 ⟨Nat.zero_le _, Nat.zero_le _⟩ (fun H locs hP hD hS => ?_)
  refine lv_iconst (v := 1) hx hb dX3_countBehind_8 (by decide) ?_
  refine lv_topi (fun x3_3 ex3_3 => ?_)
  have h := nm_s h x3_3 ex3_3
  refine lv_istore_n (lv' := [(3, .int x3_3), (0, .ref h3), (1, .int i1), (2, .int i2)]) hx hb dX3_countBehind_9 rfl hl (by decide) rfl (fun ls hl => ?_)
  have L10 : ∀ (n : Nat) (y3_4 : Int32) (behind3_5 : Nat → Int32) (z3_6 : Int32) (behind3_7 : Nat → Int32), f_X3_countBehind_L10 i1 i2 text3 textLength3 n y3_4 behind3_5 = some (z3_6, behind3_7) → ∀ (H : Heap) (locs : List Loc) (ls : Array Slot), va_P D vwK (w3 cI cJ h3 text3a behind3a uppers3a text3 behind3_5 uppers3 lower3 textLength3) H → va_D A (w3 cI cJ h3 text3a behind3a uppers3a text3 behind3_5 uppers3 lower3 textLength3) → va_S A s.heap H locs → lv_has ls 4 [(3, .int y3_4), (0, .ref h3), (1, .int i1), (2, .int i2)] → (∀ (H : Heap) (locs : List Loc) (ls : Array Slot), va_P D vwK (w3 cI cJ h3 text3a behind3a uppers3a text3 behind3_7 uppers3 lower3 textLength3) H → va_D A (w3 cI cJ h3 text3a behind3a uppers3a text3 behind3_7 uppers3 lower3 textLength3) → va_S A s.heap H locs → lv_has ls 4 [] → W p l e (rmOf 1 22) s m args below meth c H locs 0 0 Q (F0 m 73 ls [])) → W p l e (rmOf 1 22) s m args below meth c H locs 0 0 Q (F0 m 10 ls []) := by
    intro n
    induction n with
    | zero => intro y3_4 behind3_5 z3_6 behind3_7 h; rw [f_X3_countBehind_L10.eq_1] at h; cases h
    | succ n ih =>
      intro y3_4 behind3_5 z3_6 behind3_7 h H locs ls hP hD hS hl K
      rw [f_X3_countBehind_L10.eq_2] at h
      refine lv_iload_n hx hb dX3_countBehind_10 rfl (lv_at hl 0 rfl) ?_
      refine lv_aload_n hx hb dX3_countBehind_11 rfl (lv_at hl 1 rfl) ?_
      refine va_get (D := D) (ci := 2) (v := .int textLength3) (C := RX3) (T := TX3) (N := 5) hx hb hts hinX3 hown hK.1 hP 0 rfl rfl 4 (by decide) hw5 (fun _ h9 => h9) rfl dX3_countBehind_12 ?_
      refine lv_icmp_ge (tgt := 73) hx hb dX3_countBehind_15 (by decide) (fun c_8 => ?_) (fun c_8 => ?_)
      · have h := it_p c_8 h
        cases h
        exact K _ _ _ hP hD hS (lv_sub hl [] rfl)
      · have h := it_n c_8 h
        refine lv_aload_n hx hb dX3_countBehind_18 rfl (lv_at hl 1 rfl) ?_
        refine va_get (D := D) (ci := 2) (v := .ref text3a) (C := RX3) (T := TX3) (N := 5) hx hb hts hinX3 hown hK.1 hP 0 rfl rfl 0 (by decide) hw6 (fun _ h9 => h9) rfl dX3_countBehind_19 ?_
        refine lv_iload_n hx hb dX3_countBehind_22 rfl (lv_at hl 0 rfl) ?_
        refine lv_iconst (v := 1) hx hb dX3_countBehind_23 (by decide) ?_
        refine lv_isub hx hb dX3_countBehind_24 ?_
        obtain ⟨hi_9, h⟩ := gA_s h
        refine va_iald hx hb hK.1 hP 1 0 rfl rfl hi_9 dX3_countBehind_25 ?_
        refine lv_topi (fun v_10 ev_10 => ?_)
        have h := h v_10 ev_10
        refine lv_iload_n hx hb dX3_countBehind_26 rfl (lv_at hl 3 rfl) ?_
        refine lv_icmp_ne (tgt := 67) hx hb dX3_countBehind_27 (by decide) (fun c_11 => ?_) (fun c_11 => ?_)
        · have h := it_n c_11 h
          obtain ⟨x3_12, ex3_12⟩ : ∃ z : Int32, z = y3_4 + 1 := ⟨_, rfl⟩
          have h := nm_s h x3_12 ex3_12
          refine lv_iinc (v := x3_12) (lv' := [(3, .int x3_12), (0, .ref h3), (1, .int i1), (2, .int i2)]) hx hb dX3_countBehind_67 hl (k := 0) rfl (by rw [ex3_12]; rfl) (by decide) rfl (fun ls hl => ?_)
          refine lv_goto (tgt := 10) hx hb dX3_countBehind_70 (by decide) ?_
          exact ih _ _ _ _ h _ _ _ hP hD hS (lv_sub hl [0, 1, 2, 3] rfl) K
        · have h := it_p c_11 h
          refine lv_iload_n hx hb dX3_countBehind_30 rfl (lv_at hl 2 rfl) ?_
          refine lv_iconst (v := (-1)) hx hb dX3_countBehind_31 (by decide) ?_
          refine lv_icmp_eq (tgt := 52) hx hb dX3_countBehind_32 (by decide) (fun c_13 => ?_) (fun c_13 => ?_)
          · have h := it_p c_13 h
            refine lv_aload_n hx hb dX3_countBehind_52 rfl (lv_at hl 1 rfl) ?_
            refine va_get (D := D) (ci := 2) (v := .ref behind3a) (C := RX3) (T := TX3) (N := 5) hx hb hts hinX3 hown hK.1 hP 0 rfl rfl 1 (by decide) hw1 (fun _ h9 => h9) rfl dX3_countBehind_53 ?_
            refine lv_aload_n hx hb dX3_countBehind_56 rfl (lv_at hl 1 rfl) ?_
            refine va_get (D := D) (ci := 2) (v := .ref text3a) (C := RX3) (T := TX3) (N := 5) hx hb hts hinX3 hown hK.1 hP 0 rfl rfl 0 (by decide) hw6 (fun _ h9 => h9) rfl dX3_countBehind_57 ?_
            refine lv_iload_n hx hb dX3_countBehind_60 rfl (lv_at hl 0 rfl) ?_
            obtain ⟨hi_14, h⟩ := gA_s h
            refine va_iald hx hb hK.1 hP 1 0 rfl rfl hi_14 dX3_countBehind_61 ?_
            refine lv_topi (fun v_15 ev_15 => ?_)
            have h := h v_15 ev_15
            refine lv_dup2_11 hx hb dX3_countBehind_62 rfl rfl ?_
            obtain ⟨hi_16, h⟩ := gA_s h
            refine va_iald hx hb hK.1 hP 2 0 rfl rfl hi_16 dX3_countBehind_63 ?_
            refine lv_topi (fun v_17 ev_17 => ?_)
            have h := h v_17 ev_17
            refine lv_iconst (v := 1) hx hb dX3_countBehind_64 (by decide) ?_
            refine lv_iadd hx hb dX3_countBehind_65 ?_
            obtain ⟨hi_18, h⟩ := sI_s h
            refine va_iast hx hb hK.1 hP hD hS 2 0 rfl rfl hi_18 dX3_countBehind_66 (fun H locs hP hD hS => ?_)
            obtain ⟨behind3_19, ebehind3_19⟩ : ∃ z, z = upd behind3_5 (Int32.toNatClampNeg v_15) (v_17 + 1) := ⟨_, rfl⟩
            have h := h behind3_19 ebehind3_19
            rw [← ebehind3_19] at hP hD
            have hP : va_P D vwK (w3 cI cJ h3 text3a behind3a uppers3a text3 behind3_19 uppers3 lower3 textLength3) H := hP
            have hD : va_D A (w3 cI cJ h3 text3a behind3a uppers3a text3 behind3_19 uppers3 lower3 textLength3) := hD
            obtain ⟨x3_20, ex3_20⟩ : ∃ z : Int32, z = y3_4 + 1 := ⟨_, rfl⟩
            have h := nm_s h x3_20 ex3_20
            refine lv_iinc (v := x3_20) (lv' := [(3, .int x3_20), (0, .ref h3), (1, .int i1), (2, .int i2)]) hx hb dX3_countBehind_67 hl (k := 0) rfl (by rw [ex3_20]; rfl) (by decide) rfl (fun ls hl => ?_)
            refine lv_goto (tgt := 10) hx hb dX3_countBehind_70 (by decide) ?_
            exact ih _ _ _ _ h _ _ _ hP hD hS (lv_sub hl [0, 1, 2, 3] rfl) K
          · have h := it_n c_13 h
            refine lv_iload_n hx hb dX3_countBehind_35 rfl (lv_at hl 0 rfl) ?_
            refine lv_iconst (v := 2) hx hb dX3_countBehind_36 (by decide) ?_
            refine lv_icmp_lt (tgt := 67) hx hb dX3_countBehind_37 (by decide) (fun c_21 => ?_) (fun c_21 => ?_)
            · have h := it_p c_21 h
              obtain ⟨x3_22, ex3_22⟩ : ∃ z : Int32, z = y3_4 + 1 := ⟨_, rfl⟩
              have h := nm_s h x3_22 ex3_22
              refine lv_iinc (v := x3_22) (lv' := [(3, .int x3_22), (0, .ref h3), (1, .int i1), (2, .int i2)]) hx hb dX3_countBehind_67 hl (k := 0) rfl (by rw [ex3_22]; rfl) (by decide) rfl (fun ls hl => ?_)
              refine lv_goto (tgt := 10) hx hb dX3_countBehind_70 (by decide) ?_
              exact ih _ _ _ _ h _ _ _ hP hD hS (lv_sub hl [0, 1, 2, 3] rfl) K
            · have h := it_n c_21 h
              refine lv_aload_n hx hb dX3_countBehind_40 rfl (lv_at hl 1 rfl) ?_
              refine va_get (D := D) (ci := 2) (v := .ref text3a) (C := RX3) (T := TX3) (N := 5) hx hb hts hinX3 hown hK.1 hP 0 rfl rfl 0 (by decide) hw6 (fun _ h9 => h9) rfl dX3_countBehind_41 ?_
              refine lv_iload_n hx hb dX3_countBehind_44 rfl (lv_at hl 0 rfl) ?_
              refine lv_iconst (v := 2) hx hb dX3_countBehind_45 (by decide) ?_
              refine lv_isub hx hb dX3_countBehind_46 ?_
              obtain ⟨hi_23, h⟩ := gA_s h
              refine va_iald hx hb hK.1 hP 1 0 rfl rfl hi_23 dX3_countBehind_47 ?_
              refine lv_topi (fun v_24 ev_24 => ?_)
              have h := h v_24 ev_24
              refine lv_iload_n hx hb dX3_countBehind_48 rfl (lv_at hl 2 rfl) ?_
              refine lv_icmp_ne (tgt := 67) hx hb dX3_countBehind_49 (by decide) (fun c_25 => ?_) (fun c_25 => ?_)
              · have h := it_n c_25 h
                obtain ⟨x3_26, ex3_26⟩ : ∃ z : Int32, z = y3_4 + 1 := ⟨_, rfl⟩
                have h := nm_s h x3_26 ex3_26
                refine lv_iinc (v := x3_26) (lv' := [(3, .int x3_26), (0, .ref h3), (1, .int i1), (2, .int i2)]) hx hb dX3_countBehind_67 hl (k := 0) rfl (by rw [ex3_26]; rfl) (by decide) rfl (fun ls hl => ?_)
                refine lv_goto (tgt := 10) hx hb dX3_countBehind_70 (by decide) ?_
                exact ih _ _ _ _ h _ _ _ hP hD hS (lv_sub hl [0, 1, 2, 3] rfl) K
              · have h := it_p c_25 h
                refine lv_aload_n hx hb dX3_countBehind_52 rfl (lv_at hl 1 rfl) ?_
                refine va_get (D := D) (ci := 2) (v := .ref behind3a) (C := RX3) (T := TX3) (N := 5) hx hb hts hinX3 hown hK.1 hP 0 rfl rfl 1 (by decide) hw1 (fun _ h9 => h9) rfl dX3_countBehind_53 ?_
                refine lv_aload_n hx hb dX3_countBehind_56 rfl (lv_at hl 1 rfl) ?_
                refine va_get (D := D) (ci := 2) (v := .ref text3a) (C := RX3) (T := TX3) (N := 5) hx hb hts hinX3 hown hK.1 hP 0 rfl rfl 0 (by decide) hw6 (fun _ h9 => h9) rfl dX3_countBehind_57 ?_
                refine lv_iload_n hx hb dX3_countBehind_60 rfl (lv_at hl 0 rfl) ?_
                obtain ⟨hi_27, h⟩ := gA_s h
                refine va_iald hx hb hK.1 hP 1 0 rfl rfl hi_27 dX3_countBehind_61 ?_
                refine lv_topi (fun v_28 ev_28 => ?_)
                have h := h v_28 ev_28
                refine lv_dup2_11 hx hb dX3_countBehind_62 rfl rfl ?_
                obtain ⟨hi_29, h⟩ := gA_s h
                refine va_iald hx hb hK.1 hP 2 0 rfl rfl hi_29 dX3_countBehind_63 ?_
                refine lv_topi (fun v_30 ev_30 => ?_)
                have h := h v_30 ev_30
                refine lv_iconst (v := 1) hx hb dX3_countBehind_64 (by decide) ?_
                refine lv_iadd hx hb dX3_countBehind_65 ?_
                obtain ⟨hi_31, h⟩ := sI_s h
                refine va_iast hx hb hK.1 hP hD hS 2 0 rfl rfl hi_31 dX3_countBehind_66 (fun H locs hP hD hS => ?_)
                obtain ⟨behind3_32, ebehind3_32⟩ : ∃ z, z = upd behind3_5 (Int32.toNatClampNeg v_28) (v_30 + 1) := ⟨_, rfl⟩
                have h := h behind3_32 ebehind3_32
                rw [← ebehind3_32] at hP hD
                have hP : va_P D vwK (w3 cI cJ h3 text3a behind3a uppers3a text3 behind3_32 uppers3 lower3 textLength3) H := hP
                have hD : va_D A (w3 cI cJ h3 text3a behind3a uppers3a text3 behind3_32 uppers3 lower3 textLength3) := hD
                obtain ⟨x3_33, ex3_33⟩ : ∃ z : Int32, z = y3_4 + 1 := ⟨_, rfl⟩
                have h := nm_s h x3_33 ex3_33
                refine lv_iinc (v := x3_33) (lv' := [(3, .int x3_33), (0, .ref h3), (1, .int i1), (2, .int i2)]) hx hb dX3_countBehind_67 hl (k := 0) rfl (by rw [ex3_33]; rfl) (by decide) rfl (fun ls hl => ?_)
                refine lv_goto (tgt := 10) hx hb dX3_countBehind_70 (by decide) ?_
                exact ih _ _ _ _ h _ _ _ hP hD hS (lv_sub hl [0, 1, 2, 3] rfl) K
  obtain ⟨⟨z3_34, behind3_35⟩, hl_36, h⟩ := bd_s h
  refine L10 FU x3_3 behind3_1 _ _ hl_36 _ _ _ hP hD hS (lv_sub hl [0, 1, 2, 3] rfl) (fun H locs ls hP hD hS hl => ?_)
  cases h
  exact hret _ _ _ _ hP hD hS dX3_countBehind_73
def f_X3_takeCounts_L2 (behind3 : Nat → Int32) : Nat → Int32 → (Nat → Int64) → Option (Int32 × (Nat → Int64))
  | 0, _, _ => none
  | n + 1, y2_2, uppers3_3 =>
  if 8 ≤ y2_2 then
    some (y2_2, uppers3_3)
  else
    gA 8 behind3 y2_2 fun v_8 =>
    sL 8 uppers3_3 y2_2 (Int32.toInt64 v_8) fun uppers3_10 =>
    nm (α := Int32) (y2_2 + 1) fun x2_11 =>
    f_X3_takeCounts_L2 behind3 n x2_11 uppers3_10
def f_X3_takeCounts (i1 : Int32) (behind3 : Nat → Int32) (uppers3 : Nat → Int64) (lower3 : Int64) : Option ((Nat → Int64) × Int64) :=
  nm (α := Int32) (0) fun x2_1 =>
  Option.bind (f_X3_takeCounts_L2 behind3 FU x2_1 uppers3) fun (z2_12, uppers3_13) =>
  nm (α := Int64) ((Int32.toInt64 i1)) fun lower3_15 =>
  some (uppers3_13, lower3_15)
set_option maxHeartbeats 4000000 in
set_option maxRecDepth 100000 in
theorem c_X3_takeCounts (l : Launch) (D : va_G) (cI cJ : ClassId) (h3 text3a behind3a uppers3a : Nat) (text3 : Nat → Int32) (behind3 : Nat → Int32) (uppers3 : Nat → Int64) (lower3 : Int64) (textLength3 : Int32) (i1 : Int32) (uppers3z : Nat → Int64) (lower3z : Int64) (h : f_X3_takeCounts i1 behind3 uppers3 lower3 = some (uppers3z, lower3z)) : CV l D cI cJ yX3_takeCounts wsX3_takeCounts 0 0 [.ref h3, .int i1] (w3 cI cJ h3 text3a behind3a uppers3a text3 behind3 uppers3 lower3 textLength3) (w3 cI cJ h3 text3a behind3a uppers3a text3 behind3 uppers3z lower3z textLength3) := by
  refine entV (cc := cX3_takeCounts) (maxL := 3) (by decide) rfl (Nat.le_of_ble_eq_true rfl) ?_
  intro p e s m args below meth c ls A Q X hret
  obtain ⟨hx, hb, hml, hts, hown, hK, hA, hP, hD, hS, hl, hnm⟩ := X
  have hown : s.vm.findClass RX3 = some m.cls := hown
  have hl : lv_has ls 3 [(0, .ref h3), (1, .int i1)] := hl
  have hw1 : (Cond.fieldLink RX3 18 "CountLearners$TextTables" "uppers" "[J").before args s = true := hts _ (by decide +kernel)
  have hinX3 : ∀ w ∈ wsX30, w ∈ wsX3_takeCounts := by decide +kernel
  have hw3 : (Cond.fieldLink RX3 15 "CountLearners$TextTables" "behind" "[I").before args s = true := hts _ (by decide +kernel)
  have hw4 : (Cond.fieldLink RX3 22 "CountLearners$TextTables" "lower" "J").before args s = true := hts _ (by decide +kernel)
  unfold f_X3_takeCounts at h
  refine lv_iconst (v := 0) hx hb dX3_takeCounts_0 (by decide) ?_
  refine lv_topi (fun x2_1 ex2_1 => ?_)
  have h := nm_s h x2_1 ex2_1
  refine lv_istore_n (lv' := [(2, .int x2_1), (0, .ref h3), (1, .int i1)]) hx hb dX3_takeCounts_1 rfl hl (by decide) rfl (fun ls hl => ?_)
  have L2 : ∀ (n : Nat) (y2_2 : Int32) (uppers3_3 : Nat → Int64) (z2_4 : Int32) (uppers3_5 : Nat → Int64), f_X3_takeCounts_L2 behind3 n y2_2 uppers3_3 = some (z2_4, uppers3_5) → ∀ (H : Heap) (locs : List Loc) (ls : Array Slot), va_P D vwK (w3 cI cJ h3 text3a behind3a uppers3a text3 behind3 uppers3_3 lower3 textLength3) H → va_D A (w3 cI cJ h3 text3a behind3a uppers3a text3 behind3 uppers3_3 lower3 textLength3) → va_S A s.heap H locs → lv_has ls 3 [(2, .int y2_2), (0, .ref h3), (1, .int i1)] → (∀ (H : Heap) (locs : List Loc) (ls : Array Slot), va_P D vwK (w3 cI cJ h3 text3a behind3a uppers3a text3 behind3 uppers3_5 lower3 textLength3) H → va_D A (w3 cI cJ h3 text3a behind3a uppers3a text3 behind3 uppers3_5 lower3 textLength3) → va_S A s.heap H locs → lv_has ls 3 [(0, .ref h3), (1, .int i1)] → W p l e (rmOf 0 0) s m args below meth c H locs 0 0 Q (F0 m 27 ls [])) → W p l e (rmOf 0 0) s m args below meth c H locs 0 0 Q (F0 m 2 ls []) := by
    intro n
    induction n with
    | zero => intro y2_2 uppers3_3 z2_4 uppers3_5 h; rw [f_X3_takeCounts_L2.eq_1] at h; cases h
    | succ n ih =>
      intro y2_2 uppers3_3 z2_4 uppers3_5 h H locs ls hP hD hS hl K
      rw [f_X3_takeCounts_L2.eq_2] at h
      refine lv_iload_n hx hb dX3_takeCounts_2 rfl (lv_at hl 0 rfl) ?_
      refine lv_bipush (v := 8) hx hb dX3_takeCounts_3 (by decide) ?_
      refine lv_icmp_ge (tgt := 27) hx hb dX3_takeCounts_5 (by decide) (fun c_6 => ?_) (fun c_6 => ?_)
      · have h := it_p c_6 h
        cases h
        exact K _ _ _ hP hD hS (lv_sub hl [1, 2] rfl)
      · have h := it_n c_6 h
        refine lv_aload_n hx hb dX3_takeCounts_8 rfl (lv_at hl 1 rfl) ?_
        refine va_get (D := D) (ci := 2) (v := .ref uppers3a) (C := RX3) (T := TX3) (N := 5) hx hb hts hinX3 hown hK.1 hP 0 rfl rfl 2 (by decide) hw1 (fun _ h9 => h9) rfl dX3_takeCounts_9 ?_
        refine lv_iload_n hx hb dX3_takeCounts_12 rfl (lv_at hl 0 rfl) ?_
        refine lv_aload_n hx hb dX3_takeCounts_13 rfl (lv_at hl 1 rfl) ?_
        refine va_get (D := D) (ci := 2) (v := .ref behind3a) (C := RX3) (T := TX3) (N := 5) hx hb hts hinX3 hown hK.1 hP 0 rfl rfl 1 (by decide) hw3 (fun _ h9 => h9) rfl dX3_takeCounts_14 ?_
        refine lv_iload_n hx hb dX3_takeCounts_17 rfl (lv_at hl 0 rfl) ?_
        obtain ⟨hi_7, h⟩ := gA_s h
        refine va_iald hx hb hK.1 hP 2 0 rfl rfl hi_7 dX3_takeCounts_18 ?_
        refine lv_topi (fun v_8 ev_8 => ?_)
        have h := h v_8 ev_8
        refine lv_i2l (v := (Int32.toInt64 v_8)) hx hb dX3_takeCounts_19 rfl ?_
        obtain ⟨hi_9, h⟩ := sL_s h
        refine va_last hx hb hK.1 hP hD hS 3 1 rfl rfl hi_9 dX3_takeCounts_20 (fun H locs hP hD hS => ?_)
        obtain ⟨uppers3_10, euppers3_10⟩ : ∃ z, z = vp_updL uppers3_3 (Int32.toNatClampNeg y2_2) (Int32.toInt64 v_8) := ⟨_, rfl⟩
        have h := h uppers3_10 euppers3_10
        rw [← euppers3_10] at hP hD
        have hP : va_P D vwK (w3 cI cJ h3 text3a behind3a uppers3a text3 behind3 uppers3_10 lower3 textLength3) H := hP
        have hD : va_D A (w3 cI cJ h3 text3a behind3a uppers3a text3 behind3 uppers3_10 lower3 textLength3) := hD
        obtain ⟨x2_11, ex2_11⟩ : ∃ z : Int32, z = y2_2 + 1 := ⟨_, rfl⟩
        have h := nm_s h x2_11 ex2_11
        refine lv_iinc (v := x2_11) (lv' := [(2, .int x2_11), (0, .ref h3), (1, .int i1)]) hx hb dX3_takeCounts_21 hl (k := 0) rfl (by rw [ex2_11]; rfl) (by decide) rfl (fun ls hl => ?_)
        refine lv_goto (tgt := 2) hx hb dX3_takeCounts_24 (by decide) ?_
        exact ih _ _ _ _ h _ _ _ hP hD hS (lv_sub hl [0, 1, 2] rfl) K
  obtain ⟨⟨z2_12, uppers3_13⟩, hl_14, h⟩ := bd_s h
  refine L2 FU x2_1 uppers3 _ _ hl_14 _ _ _ hP hD hS (lv_sub hl [0, 1, 2] rfl) (fun H locs ls hP hD hS hl => ?_)
  refine lv_aload_n hx hb dX3_takeCounts_27 rfl (lv_at hl 0 rfl) ?_
  refine lv_iload_n hx hb dX3_takeCounts_28 rfl (lv_at hl 1 rfl) ?_
  refine lv_i2l (v := (Int32.toInt64 i1)) hx hb dX3_takeCounts_29 rfl ?_
  refine lv_topl (fun lower3_15 elower3_15 => ?_)
  have h := nm_s h lower3_15 elower3_15
  refine va_put (D := D) (ci := 2) (v := .long lower3_15) (ty := .long) (C := RX3) (T := TX3) (N := 5) hx hb hts hinX3 tyX3 tyX3_ok nmX3 hown hK.1 hP hD hS 0 rfl rfl 3 (by decide) hw4 (fun _ h9 => h9) rfl (by decide +kernel) rfl rfl (Nat.le_of_ble_eq_true rfl) dX3_takeCounts_30 (fun H locs hP hD hS => ?_)
  have hP : va_P D vwK (w3 cI cJ h3 text3a behind3a uppers3a text3 behind3 uppers3_13 lower3_15 textLength3) H := hP
  have hD : va_D A (w3 cI cJ h3 text3a behind3a uppers3a text3 behind3 uppers3_13 lower3_15 textLength3) := hD
  cases h
  exact hret _ _ _ _ hP hD hS dX3_takeCounts_33
def f_X3_handDown_L3 (i2 : Int32) (q3 : Int64) (behind3 : Nat → Int32) : Nat → Int32 → (Nat → Int64) → Option (Int32 × (Nat → Int64))
  | 0, _, _ => none
  | n + 1, y5_2, uppers3_3 =>
  if 8 ≤ y5_2 then
    some (y5_2, uppers3_3)
  else
    gA 8 behind3 y5_2 fun v_8 =>
    if v_8 ≤ 0 then
      gA 8 uppers3_3 y5_2 fun v_11 =>
      sL 8 uppers3_3 y5_2 ((Int32.toInt64 i2) * v_11) fun uppers3_13 =>
      nm (α := Int32) (y5_2 + 1) fun x5_14 =>
      f_X3_handDown_L3 i2 q3 behind3 n x5_14 uppers3_13
    else
      gA 8 behind3 y5_2 fun v_16 =>
      sL 8 uppers3_3 y5_2 (((2 * (Int32.toInt64 v_16)) - 1) * q3) fun uppers3_18 =>
      nm (α := Int32) (y5_2 + 1) fun x5_19 =>
      f_X3_handDown_L3 i2 q3 behind3 n x5_19 uppers3_18
def f_X3_handDown (i1 : Int32) (i2 : Int32) (q3 : Int64) (behind3 : Nat → Int32) (uppers3 : Nat → Int64) (lower3 : Int64) : Option ((Nat → Int64) × Int64) :=
  nm (α := Int32) (0) fun x5_1 =>
  Option.bind (f_X3_handDown_L3 i2 q3 behind3 FU x5_1 uppers3) fun (z5_20, uppers3_21) =>
  nm (α := Int64) (((2 * (Int32.toInt64 i1)) * q3)) fun lower3_23 =>
  some (uppers3_21, lower3_23)
set_option maxHeartbeats 4000000 in
set_option maxRecDepth 100000 in
theorem c_X3_handDown (l : Launch) (D : va_G) (cI cJ : ClassId) (h3 text3a behind3a uppers3a : Nat) (text3 : Nat → Int32) (behind3 : Nat → Int32) (uppers3 : Nat → Int64) (lower3 : Int64) (textLength3 : Int32) (i1 : Int32) (i2 : Int32) (q3 : Int64) (uppers3z : Nat → Int64) (lower3z : Int64) (h : f_X3_handDown i1 i2 q3 behind3 uppers3 lower3 = some (uppers3z, lower3z)) : CV l D cI cJ yX3_handDown wsX3_handDown 0 0 [.ref h3, .int i1, .int i2, .long q3] (w3 cI cJ h3 text3a behind3a uppers3a text3 behind3 uppers3 lower3 textLength3) (w3 cI cJ h3 text3a behind3a uppers3a text3 behind3 uppers3z lower3z textLength3) := by
  refine entV (cc := cX3_handDown) (maxL := 6) (by decide) rfl (Nat.le_of_ble_eq_true rfl) ?_
  intro p e s m args below meth c ls A Q X hret
  obtain ⟨hx, hb, hml, hts, hown, hK, hA, hP, hD, hS, hl, hnm⟩ := X
  have hown : s.vm.findClass RX3 = some m.cls := hown
  have hl : lv_has ls 6 [(0, .ref h3), (1, .int i1), (2, .int i2), (3, .long q3)] := hl
  have hw1 : (Cond.fieldLink RX3 15 "CountLearners$TextTables" "behind" "[I").before args s = true := hts _ (by decide +kernel)
  have hinX3 : ∀ w ∈ wsX30, w ∈ wsX3_handDown := by decide +kernel
  have hw3 : (Cond.fieldLink RX3 18 "CountLearners$TextTables" "uppers" "[J").before args s = true := hts _ (by decide +kernel)
  have hw4 : (Cond.constantLong RX3 52 (2)).before args s = true := hts _ (by decide +kernel)
  have hw5 : (Cond.fieldLink RX3 22 "CountLearners$TextTables" "lower" "J").before args s = true := hts _ (by decide +kernel)
  unfold f_X3_handDown at h
  refine lv_iconst (v := 0) hx hb dX3_handDown_0 (by decide) ?_
  refine lv_topi (fun x5_1 ex5_1 => ?_)
  have h := nm_s h x5_1 ex5_1
  refine lv_istore (lv' := [(5, .int x5_1), (0, .ref h3), (1, .int i1), (2, .int i2), (3, .long q3)]) hx hb dX3_handDown_1 hl (by decide) rfl (fun ls hl => ?_)
  have L3 : ∀ (n : Nat) (y5_2 : Int32) (uppers3_3 : Nat → Int64) (z5_4 : Int32) (uppers3_5 : Nat → Int64), f_X3_handDown_L3 i2 q3 behind3 n y5_2 uppers3_3 = some (z5_4, uppers3_5) → ∀ (H : Heap) (locs : List Loc) (ls : Array Slot), va_P D vwK (w3 cI cJ h3 text3a behind3a uppers3a text3 behind3 uppers3_3 lower3 textLength3) H → va_D A (w3 cI cJ h3 text3a behind3a uppers3a text3 behind3 uppers3_3 lower3 textLength3) → va_S A s.heap H locs → lv_has ls 6 [(5, .int y5_2), (0, .ref h3), (1, .int i1), (2, .int i2), (3, .long q3)] → (∀ (H : Heap) (locs : List Loc) (ls : Array Slot), va_P D vwK (w3 cI cJ h3 text3a behind3a uppers3a text3 behind3 uppers3_5 lower3 textLength3) H → va_D A (w3 cI cJ h3 text3a behind3a uppers3a text3 behind3 uppers3_5 lower3 textLength3) → va_S A s.heap H locs → lv_has ls 6 [(0, .ref h3), (1, .int i1), (3, .long q3)] → W p l e (rmOf 0 0) s m args below meth c H locs 0 0 Q (F0 m 69 ls [])) → W p l e (rmOf 0 0) s m args below meth c H locs 0 0 Q (F0 m 3 ls []) := by
    intro n
    induction n with
    | zero => intro y5_2 uppers3_3 z5_4 uppers3_5 h; rw [f_X3_handDown_L3.eq_1] at h; cases h
    | succ n ih =>
      intro y5_2 uppers3_3 z5_4 uppers3_5 h H locs ls hP hD hS hl K
      rw [f_X3_handDown_L3.eq_2] at h
      refine lv_iload hx hb dX3_handDown_3 (lv_at hl 0 rfl) ?_
      refine lv_bipush (v := 8) hx hb dX3_handDown_5 (by decide) ?_
      refine lv_icmp_ge (tgt := 69) hx hb dX3_handDown_7 (by decide) (fun c_6 => ?_) (fun c_6 => ?_)
      · have h := it_p c_6 h
        cases h
        exact K _ _ _ hP hD hS (lv_sub hl [1, 2, 4] rfl)
      · have h := it_n c_6 h
        refine lv_aload_n hx hb dX3_handDown_10 rfl (lv_at hl 1 rfl) ?_
        refine va_get (D := D) (ci := 2) (v := .ref behind3a) (C := RX3) (T := TX3) (N := 5) hx hb hts hinX3 hown hK.1 hP 0 rfl rfl 1 (by decide) hw1 (fun _ h9 => h9) rfl dX3_handDown_11 ?_
        refine lv_iload hx hb dX3_handDown_14 (lv_at hl 0 rfl) ?_
        obtain ⟨hi_7, h⟩ := gA_s h
        refine va_iald hx hb hK.1 hP 2 0 rfl rfl hi_7 dX3_handDown_16 ?_
        refine lv_topi (fun v_8 ev_8 => ?_)
        have h := h v_8 ev_8
        refine lv_if_le (tgt := 46) hx hb dX3_handDown_17 (by decide) (fun c_9 => ?_) (fun c_9 => ?_)
        · have h := it_p c_9 h
          refine lv_aload_n hx hb dX3_handDown_46 rfl (lv_at hl 1 rfl) ?_
          refine va_get (D := D) (ci := 2) (v := .ref uppers3a) (C := RX3) (T := TX3) (N := 5) hx hb hts hinX3 hown hK.1 hP 0 rfl rfl 2 (by decide) hw3 (fun _ h9 => h9) rfl dX3_handDown_47 ?_
          refine lv_iload hx hb dX3_handDown_50 (lv_at hl 0 rfl) ?_
          refine lv_iload_n hx hb dX3_handDown_52 rfl (lv_at hl 3 rfl) ?_
          refine lv_i2l (v := (Int32.toInt64 i2)) hx hb dX3_handDown_53 rfl ?_
          refine lv_aload_n hx hb dX3_handDown_54 rfl (lv_at hl 1 rfl) ?_
          refine va_get (D := D) (ci := 2) (v := .ref uppers3a) (C := RX3) (T := TX3) (N := 5) hx hb hts hinX3 hown hK.1 hP 0 rfl rfl 2 (by decide) hw3 (fun _ h9 => h9) rfl dX3_handDown_55 ?_
          refine lv_iload hx hb dX3_handDown_58 (lv_at hl 0 rfl) ?_
          obtain ⟨hi_10, h⟩ := gA_s h
          refine va_lald hx hb hK.1 hP 3 1 rfl rfl hi_10 dX3_handDown_60 ?_
          refine lv_topl (fun v_11 ev_11 => ?_)
          have h := h v_11 ev_11
          refine lv_lmul hx hb dX3_handDown_61 ?_
          obtain ⟨hi_12, h⟩ := sL_s h
          refine va_last hx hb hK.1 hP hD hS 3 1 rfl rfl hi_12 dX3_handDown_62 (fun H locs hP hD hS => ?_)
          obtain ⟨uppers3_13, euppers3_13⟩ : ∃ z, z = vp_updL uppers3_3 (Int32.toNatClampNeg y5_2) ((Int32.toInt64 i2) * v_11) := ⟨_, rfl⟩
          have h := h uppers3_13 euppers3_13
          rw [← euppers3_13] at hP hD
          have hP : va_P D vwK (w3 cI cJ h3 text3a behind3a uppers3a text3 behind3 uppers3_13 lower3 textLength3) H := hP
          have hD : va_D A (w3 cI cJ h3 text3a behind3a uppers3a text3 behind3 uppers3_13 lower3 textLength3) := hD
          obtain ⟨x5_14, ex5_14⟩ : ∃ z : Int32, z = y5_2 + 1 := ⟨_, rfl⟩
          have h := nm_s h x5_14 ex5_14
          refine lv_iinc (v := x5_14) (lv' := [(5, .int x5_14), (0, .ref h3), (1, .int i1), (2, .int i2), (3, .long q3)]) hx hb dX3_handDown_63 hl (k := 0) rfl (by rw [ex5_14]; rfl) (by decide) rfl (fun ls hl => ?_)
          refine lv_goto (tgt := 3) hx hb dX3_handDown_66 (by decide) ?_
          exact ih _ _ _ _ h _ _ _ hP hD hS (lv_sub hl [0, 1, 2, 3, 4] rfl) K
        · have h := it_n c_9 h
          refine lv_aload_n hx hb dX3_handDown_20 rfl (lv_at hl 1 rfl) ?_
          refine va_get (D := D) (ci := 2) (v := .ref uppers3a) (C := RX3) (T := TX3) (N := 5) hx hb hts hinX3 hown hK.1 hP 0 rfl rfl 2 (by decide) hw3 (fun _ h9 => h9) rfl dX3_handDown_21 ?_
          refine lv_iload hx hb dX3_handDown_24 (lv_at hl 0 rfl) ?_
          refine lv_ldc2 (v := 2) hx hb hown hw4 dX3_handDown_26 ?_
          refine lv_aload_n hx hb dX3_handDown_29 rfl (lv_at hl 1 rfl) ?_
          refine va_get (D := D) (ci := 2) (v := .ref behind3a) (C := RX3) (T := TX3) (N := 5) hx hb hts hinX3 hown hK.1 hP 0 rfl rfl 1 (by decide) hw1 (fun _ h9 => h9) rfl dX3_handDown_30 ?_
          refine lv_iload hx hb dX3_handDown_33 (lv_at hl 0 rfl) ?_
          obtain ⟨hi_15, h⟩ := gA_s h
          refine va_iald hx hb hK.1 hP 2 0 rfl rfl hi_15 dX3_handDown_35 ?_
          refine lv_topi (fun v_16 ev_16 => ?_)
          have h := h v_16 ev_16
          refine lv_i2l (v := (Int32.toInt64 v_16)) hx hb dX3_handDown_36 rfl ?_
          refine lv_lmul hx hb dX3_handDown_37 ?_
          refine lv_lconst (v := 1) hx hb dX3_handDown_38 (by decide) ?_
          refine lv_lsub hx hb dX3_handDown_39 ?_
          refine lv_lload_n hx hb dX3_handDown_40 rfl (lv_at hl 4 rfl) ?_
          refine lv_lmul hx hb dX3_handDown_41 ?_
          obtain ⟨hi_17, h⟩ := sL_s h
          refine va_last hx hb hK.1 hP hD hS 3 1 rfl rfl hi_17 dX3_handDown_42 (fun H locs hP hD hS => ?_)
          obtain ⟨uppers3_18, euppers3_18⟩ : ∃ z, z = vp_updL uppers3_3 (Int32.toNatClampNeg y5_2) (((2 * (Int32.toInt64 v_16)) - 1) * q3) := ⟨_, rfl⟩
          have h := h uppers3_18 euppers3_18
          rw [← euppers3_18] at hP hD
          have hP : va_P D vwK (w3 cI cJ h3 text3a behind3a uppers3a text3 behind3 uppers3_18 lower3 textLength3) H := hP
          have hD : va_D A (w3 cI cJ h3 text3a behind3a uppers3a text3 behind3 uppers3_18 lower3 textLength3) := hD
          refine lv_goto (tgt := 63) hx hb dX3_handDown_43 (by decide) ?_
          obtain ⟨x5_19, ex5_19⟩ : ∃ z : Int32, z = y5_2 + 1 := ⟨_, rfl⟩
          have h := nm_s h x5_19 ex5_19
          refine lv_iinc (v := x5_19) (lv' := [(5, .int x5_19), (0, .ref h3), (1, .int i1), (2, .int i2), (3, .long q3)]) hx hb dX3_handDown_63 hl (k := 0) rfl (by rw [ex5_19]; rfl) (by decide) rfl (fun ls hl => ?_)
          refine lv_goto (tgt := 3) hx hb dX3_handDown_66 (by decide) ?_
          exact ih _ _ _ _ h _ _ _ hP hD hS (lv_sub hl [0, 1, 2, 3, 4] rfl) K
  obtain ⟨⟨z5_20, uppers3_21⟩, hl_22, h⟩ := bd_s h
  refine L3 FU x5_1 uppers3 _ _ hl_22 _ _ _ hP hD hS (lv_sub hl [0, 1, 2, 3, 4] rfl) (fun H locs ls hP hD hS hl => ?_)
  refine lv_aload_n hx hb dX3_handDown_69 rfl (lv_at hl 0 rfl) ?_
  refine lv_ldc2 (v := 2) hx hb hown hw4 dX3_handDown_70 ?_
  refine lv_iload_n hx hb dX3_handDown_73 rfl (lv_at hl 1 rfl) ?_
  refine lv_i2l (v := (Int32.toInt64 i1)) hx hb dX3_handDown_74 rfl ?_
  refine lv_lmul hx hb dX3_handDown_75 ?_
  refine lv_lload_n hx hb dX3_handDown_76 rfl (lv_at hl 2 rfl) ?_
  refine lv_lmul hx hb dX3_handDown_77 ?_
  refine lv_topl (fun lower3_23 elower3_23 => ?_)
  have h := nm_s h lower3_23 elower3_23
  refine va_put (D := D) (ci := 2) (v := .long lower3_23) (ty := .long) (C := RX3) (T := TX3) (N := 5) hx hb hts hinX3 tyX3 tyX3_ok nmX3 hown hK.1 hP hD hS 0 rfl rfl 3 (by decide) hw5 (fun _ h9 => h9) rfl (by decide +kernel) rfl rfl (Nat.le_of_ble_eq_true rfl) dX3_handDown_78 (fun H locs hP hD hS => ?_)
  have hP : va_P D vwK (w3 cI cJ h3 text3a behind3a uppers3a text3 behind3 uppers3_21 lower3_23 textLength3) H := hP
  have hD : va_D A (w3 cI cJ h3 text3a behind3a uppers3a text3 behind3 uppers3_21 lower3_23 textLength3) := hD
  cases h
  exact hret _ _ _ _ hP hD hS dX3_handDown_81
def f_X3_putAbove_L9 (behind3 : Nat → Int32) (uppers3 : Nat → Int64) : Nat → Int32 → Int64 → Int32 → Int32 → Option (Int32 × Int64 × Int32 × Int32)
  | 0, _, _, _, _ => none
  | n + 1, y5_5, k3_6, y2_7, y1_8 =>
  if 8 ≤ y5_5 then
    some (y5_5, k3_6, y2_7, y1_8)
  else
    gA 8 behind3 y5_5 fun v_15 =>
    nm (α := Int32) ((y1_8 + v_15)) fun x1_16 =>
    gA 8 behind3 y5_5 fun v_18 =>
    if v_18 ≤ 0 then
      nm (α := Int32) ((y2_7 + 0)) fun x2_20 =>
      gA 8 behind3 y5_5 fun v_22 =>
      if v_22 ≤ 0 then
        gA 8 uppers3 y5_5 fun v_25 =>
        nm (α := Int64) ((k3_6 + v_25)) fun j3_26 =>
        nm (α := Int32) (y5_5 + 1) fun x5_27 =>
        f_X3_putAbove_L9 behind3 uppers3 n x5_27 j3_26 x2_20 x1_16
      else
        nm (α := Int64) ((k3_6 + 0)) fun j3_28 =>
        nm (α := Int32) (y5_5 + 1) fun x5_29 =>
        f_X3_putAbove_L9 behind3 uppers3 n x5_29 j3_28 x2_20 x1_16
    else
      nm (α := Int32) ((y2_7 + 1)) fun x2_30 =>
      gA 8 behind3 y5_5 fun v_32 =>
      if v_32 ≤ 0 then
        gA 8 uppers3 y5_5 fun v_35 =>
        nm (α := Int64) ((k3_6 + v_35)) fun j3_36 =>
        nm (α := Int32) (y5_5 + 1) fun x5_37 =>
        f_X3_putAbove_L9 behind3 uppers3 n x5_37 j3_36 x2_30 x1_16
      else
        nm (α := Int64) ((k3_6 + 0)) fun j3_38 =>
        nm (α := Int32) (y5_5 + 1) fun x5_39 =>
        f_X3_putAbove_L9 behind3 uppers3 n x5_39 j3_38 x2_30 x1_16
def f_X3_putAbove (behind3 : Nat → Int32) (uppers3 : Nat → Int64) (lower3 : Int64) : Option ((Nat → Int64) × Int64) :=
  nm (α := Int32) (0) fun x1_1 =>
  nm (α := Int32) (0) fun x2_2 =>
  nm (α := Int64) (0) fun j3_3 =>
  nm (α := Int32) (0) fun x5_4 =>
  Option.bind (f_X3_putAbove_L9 behind3 uppers3 FU x5_4 j3_3 x2_2 x1_1) fun (z5_40, z3_41, z2_42, z1_43) =>
  if z1_43 = 0 then
    some (uppers3, lower3)
  else
    if z2_42 = 8 then
      Option.bind (f_X3_takeCounts z1_43 behind3 uppers3 lower3) fun (uppers3_50, lower3_51) =>
      some (uppers3_50, lower3_51)
    else
      Option.bind (f_X3_handDown z1_43 z2_42 z3_41 behind3 uppers3 lower3) fun (uppers3_47, lower3_48) =>
      some (uppers3_47, lower3_48)
set_option maxHeartbeats 4000000 in
set_option maxRecDepth 100000 in
theorem c_X3_putAbove (l : Launch) (D : va_G) (cI cJ : ClassId) (h3 text3a behind3a uppers3a : Nat) (text3 : Nat → Int32) (behind3 : Nat → Int32) (uppers3 : Nat → Int64) (lower3 : Int64) (textLength3 : Int32) (uppers3z : Nat → Int64) (lower3z : Int64) (h : f_X3_putAbove behind3 uppers3 lower3 = some (uppers3z, lower3z)) : CV l D cI cJ yX3_putAbove wsX3_putAbove 1 25 [.ref h3] (w3 cI cJ h3 text3a behind3a uppers3a text3 behind3 uppers3 lower3 textLength3) (w3 cI cJ h3 text3a behind3a uppers3a text3 behind3 uppers3z lower3z textLength3) := by
  refine entV (cc := cX3_putAbove) (maxL := 6) (by decide) rfl (Nat.le_of_ble_eq_true rfl) ?_
  intro p e s m args below meth c ls A Q X hret
  obtain ⟨hx, hb, hml, hts, hown, hK, hA, hP, hD, hS, hl, hnm⟩ := X
  have hown : s.vm.findClass RX3 = some m.cls := hown
  have hl : lv_has ls 6 [(0, .ref h3)] := hl
  have hw1 : (Cond.fieldLink RX3 15 "CountLearners$TextTables" "behind" "[I").before args s = true := hts _ (by decide +kernel)
  have hinX3 : ∀ w ∈ wsX30, w ∈ wsX3_putAbove := by decide +kernel
  have hw3 : (Cond.fieldLink RX3 18 "CountLearners$TextTables" "uppers" "[J").before args s = true := hts _ (by decide +kernel)
  unfold f_X3_putAbove at h
  refine lv_iconst (v := 0) hx hb dX3_putAbove_0 (by decide) ?_
  refine lv_topi (fun x1_1 ex1_1 => ?_)
  have h := nm_s h x1_1 ex1_1
  refine lv_istore_n (lv' := [(1, .int x1_1), (0, .ref h3)]) hx hb dX3_putAbove_1 rfl hl (by decide) rfl (fun ls hl => ?_)
  refine lv_iconst (v := 0) hx hb dX3_putAbove_2 (by decide) ?_
  refine lv_topi (fun x2_2 ex2_2 => ?_)
  have h := nm_s h x2_2 ex2_2
  refine lv_istore_n (lv' := [(2, .int x2_2), (1, .int x1_1), (0, .ref h3)]) hx hb dX3_putAbove_3 rfl hl (by decide) rfl (fun ls hl => ?_)
  refine lv_lconst (v := 0) hx hb dX3_putAbove_4 (by decide) ?_
  refine lv_topl (fun j3_3 ej3_3 => ?_)
  have h := nm_s h j3_3 ej3_3
  refine lv_lstore_n (lv' := [(3, .long j3_3), (2, .int x2_2), (1, .int x1_1), (0, .ref h3)]) hx hb dX3_putAbove_5 rfl hl (by decide) rfl (fun ls hl => ?_)
  refine lv_iconst (v := 0) hx hb dX3_putAbove_6 (by decide) ?_
  refine lv_topi (fun x5_4 ex5_4 => ?_)
  have h := nm_s h x5_4 ex5_4
  refine lv_istore (lv' := [(5, .int x5_4), (3, .long j3_3), (2, .int x2_2), (1, .int x1_1), (0, .ref h3)]) hx hb dX3_putAbove_7 hl (by decide) rfl (fun ls hl => ?_)
  have L9 : ∀ (n : Nat) (y5_5 : Int32) (k3_6 : Int64) (y2_7 : Int32) (y1_8 : Int32) (z5_9 : Int32) (z3_10 : Int64) (z2_11 : Int32) (z1_12 : Int32), f_X3_putAbove_L9 behind3 uppers3 n y5_5 k3_6 y2_7 y1_8 = some (z5_9, z3_10, z2_11, z1_12) → ∀ (H : Heap) (locs : List Loc) (ls : Array Slot), va_P D vwK (w3 cI cJ h3 text3a behind3a uppers3a text3 behind3 uppers3 lower3 textLength3) H → va_D A (w3 cI cJ h3 text3a behind3a uppers3a text3 behind3 uppers3 lower3 textLength3) → va_S A s.heap H locs → lv_has ls 6 [(5, .int y5_5), (3, .long k3_6), (2, .int y2_7), (1, .int y1_8), (0, .ref h3)] → (∀ (H : Heap) (locs : List Loc) (ls : Array Slot), va_P D vwK (w3 cI cJ h3 text3a behind3a uppers3a text3 behind3 uppers3 lower3 textLength3) H → va_D A (w3 cI cJ h3 text3a behind3a uppers3a text3 behind3 uppers3 lower3 textLength3) → va_S A s.heap H locs → lv_has ls 6 [(3, .long z3_10), (2, .int z2_11), (1, .int z1_12), (0, .ref h3)] → W p l e (rmOf 1 25) s m args below meth c H locs 0 0 Q (F0 m 74 ls [])) → W p l e (rmOf 1 25) s m args below meth c H locs 0 0 Q (F0 m 9 ls []) := by
    intro n
    induction n with
    | zero => intro y5_5 k3_6 y2_7 y1_8 z5_9 z3_10 z2_11 z1_12 h; rw [f_X3_putAbove_L9.eq_1] at h; cases h
    | succ n ih =>
      intro y5_5 k3_6 y2_7 y1_8 z5_9 z3_10 z2_11 z1_12 h H locs ls hP hD hS hl K
      rw [f_X3_putAbove_L9.eq_2] at h
      refine lv_iload hx hb dX3_putAbove_9 (lv_at hl 0 rfl) ?_
      refine lv_bipush (v := 8) hx hb dX3_putAbove_11 (by decide) ?_
      refine lv_icmp_ge (tgt := 74) hx hb dX3_putAbove_13 (by decide) (fun c_13 => ?_) (fun c_13 => ?_)
      · have h := it_p c_13 h
        cases h
        exact K _ _ _ hP hD hS (lv_sub hl [1, 2, 3, 4] rfl)
      · have h := it_n c_13 h
        refine lv_iload_n hx hb dX3_putAbove_16 rfl (lv_at hl 3 rfl) ?_
        refine lv_aload_n hx hb dX3_putAbove_17 rfl (lv_at hl 4 rfl) ?_
        refine va_get (D := D) (ci := 2) (v := .ref behind3a) (C := RX3) (T := TX3) (N := 5) hx hb hts hinX3 hown hK.1 hP 0 rfl rfl 1 (by decide) hw1 (fun _ h9 => h9) rfl dX3_putAbove_18 ?_
        refine lv_iload hx hb dX3_putAbove_21 (lv_at hl 0 rfl) ?_
        obtain ⟨hi_14, h⟩ := gA_s h
        refine va_iald hx hb hK.1 hP 2 0 rfl rfl hi_14 dX3_putAbove_23 ?_
        refine lv_topi (fun v_15 ev_15 => ?_)
        have h := h v_15 ev_15
        refine lv_iadd hx hb dX3_putAbove_24 ?_
        refine lv_topi (fun x1_16 ex1_16 => ?_)
        have h := nm_s h x1_16 ex1_16
        refine lv_istore_n (lv' := [(1, .int x1_16), (5, .int y5_5), (3, .long k3_6), (2, .int y2_7), (0, .ref h3)]) hx hb dX3_putAbove_25 rfl hl (by decide) rfl (fun ls hl => ?_)
        refine lv_iload_n hx hb dX3_putAbove_26 rfl (lv_at hl 3 rfl) ?_
        refine lv_aload_n hx hb dX3_putAbove_27 rfl (lv_at hl 4 rfl) ?_
        refine va_get (D := D) (ci := 2) (v := .ref behind3a) (C := RX3) (T := TX3) (N := 5) hx hb hts hinX3 hown hK.1 hP 0 rfl rfl 1 (by decide) hw1 (fun _ h9 => h9) rfl dX3_putAbove_28 ?_
        refine lv_iload hx hb dX3_putAbove_31 (lv_at hl 1 rfl) ?_
        obtain ⟨hi_17, h⟩ := gA_s h
        refine va_iald hx hb hK.1 hP 2 0 rfl rfl hi_17 dX3_putAbove_33 ?_
        refine lv_topi (fun v_18 ev_18 => ?_)
        have h := h v_18 ev_18
        refine lv_if_le (tgt := 41) hx hb dX3_putAbove_34 (by decide) (fun c_19 => ?_) (fun c_19 => ?_)
        · have h := it_p c_19 h
          refine lv_iconst (v := 0) hx hb dX3_putAbove_41 (by decide) ?_
          refine lv_iadd hx hb dX3_putAbove_42 ?_
          refine lv_topi (fun x2_20 ex2_20 => ?_)
          have h := nm_s h x2_20 ex2_20
          refine lv_istore_n (lv' := [(2, .int x2_20), (1, .int x1_16), (5, .int y5_5), (3, .long k3_6), (0, .ref h3)]) hx hb dX3_putAbove_43 rfl hl (by decide) rfl (fun ls hl => ?_)
          refine lv_lload_n hx hb dX3_putAbove_44 rfl (lv_at hl 3 rfl) ?_
          refine lv_aload_n hx hb dX3_putAbove_45 rfl (lv_at hl 4 rfl) ?_
          refine va_get (D := D) (ci := 2) (v := .ref behind3a) (C := RX3) (T := TX3) (N := 5) hx hb hts hinX3 hown hK.1 hP 0 rfl rfl 1 (by decide) hw1 (fun _ h9 => h9) rfl dX3_putAbove_46 ?_
          refine lv_iload hx hb dX3_putAbove_49 (lv_at hl 2 rfl) ?_
          obtain ⟨hi_21, h⟩ := gA_s h
          refine va_iald hx hb hK.1 hP 2 0 rfl rfl hi_21 dX3_putAbove_51 ?_
          refine lv_topi (fun v_22 ev_22 => ?_)
          have h := h v_22 ev_22
          refine lv_if_le (tgt := 59) hx hb dX3_putAbove_52 (by decide) (fun c_23 => ?_) (fun c_23 => ?_)
          · have h := it_p c_23 h
            refine lv_aload_n hx hb dX3_putAbove_59 rfl (lv_at hl 4 rfl) ?_
            refine va_get (D := D) (ci := 2) (v := .ref uppers3a) (C := RX3) (T := TX3) (N := 5) hx hb hts hinX3 hown hK.1 hP 0 rfl rfl 2 (by decide) hw3 (fun _ h9 => h9) rfl dX3_putAbove_60 ?_
            refine lv_iload hx hb dX3_putAbove_63 (lv_at hl 2 rfl) ?_
            obtain ⟨hi_24, h⟩ := gA_s h
            refine va_lald hx hb hK.1 hP 3 1 rfl rfl hi_24 dX3_putAbove_65 ?_
            refine lv_topl (fun v_25 ev_25 => ?_)
            have h := h v_25 ev_25
            refine lv_ladd hx hb dX3_putAbove_66 ?_
            refine lv_topl (fun j3_26 ej3_26 => ?_)
            have h := nm_s h j3_26 ej3_26
            refine lv_lstore_n (lv' := [(3, .long j3_26), (2, .int x2_20), (1, .int x1_16), (5, .int y5_5), (0, .ref h3)]) hx hb dX3_putAbove_67 rfl hl (by decide) rfl (fun ls hl => ?_)
            obtain ⟨x5_27, ex5_27⟩ : ∃ z : Int32, z = y5_5 + 1 := ⟨_, rfl⟩
            have h := nm_s h x5_27 ex5_27
            refine lv_iinc (v := x5_27) (lv' := [(5, .int x5_27), (3, .long j3_26), (2, .int x2_20), (1, .int x1_16), (0, .ref h3)]) hx hb dX3_putAbove_68 hl (k := 3) rfl (by rw [ex5_27]; rfl) (by decide) rfl (fun ls hl => ?_)
            refine lv_goto (tgt := 9) hx hb dX3_putAbove_71 (by decide) ?_
            exact ih _ _ _ _ _ _ _ _ h _ _ _ hP hD hS (lv_sub hl [0, 1, 2, 3, 4] rfl) K
          · have h := it_n c_23 h
            refine lv_lconst (v := 0) hx hb dX3_putAbove_55 (by decide) ?_
            refine lv_goto (tgt := 66) hx hb dX3_putAbove_56 (by decide) ?_
            refine lv_ladd hx hb dX3_putAbove_66 ?_
            refine lv_topl (fun j3_28 ej3_28 => ?_)
            have h := nm_s h j3_28 ej3_28
            refine lv_lstore_n (lv' := [(3, .long j3_28), (2, .int x2_20), (1, .int x1_16), (5, .int y5_5), (0, .ref h3)]) hx hb dX3_putAbove_67 rfl hl (by decide) rfl (fun ls hl => ?_)
            obtain ⟨x5_29, ex5_29⟩ : ∃ z : Int32, z = y5_5 + 1 := ⟨_, rfl⟩
            have h := nm_s h x5_29 ex5_29
            refine lv_iinc (v := x5_29) (lv' := [(5, .int x5_29), (3, .long j3_28), (2, .int x2_20), (1, .int x1_16), (0, .ref h3)]) hx hb dX3_putAbove_68 hl (k := 3) rfl (by rw [ex5_29]; rfl) (by decide) rfl (fun ls hl => ?_)
            refine lv_goto (tgt := 9) hx hb dX3_putAbove_71 (by decide) ?_
            exact ih _ _ _ _ _ _ _ _ h _ _ _ hP hD hS (lv_sub hl [0, 1, 2, 3, 4] rfl) K
        · have h := it_n c_19 h
          refine lv_iconst (v := 1) hx hb dX3_putAbove_37 (by decide) ?_
          refine lv_goto (tgt := 42) hx hb dX3_putAbove_38 (by decide) ?_
          refine lv_iadd hx hb dX3_putAbove_42 ?_
          refine lv_topi (fun x2_30 ex2_30 => ?_)
          have h := nm_s h x2_30 ex2_30
          refine lv_istore_n (lv' := [(2, .int x2_30), (1, .int x1_16), (5, .int y5_5), (3, .long k3_6), (0, .ref h3)]) hx hb dX3_putAbove_43 rfl hl (by decide) rfl (fun ls hl => ?_)
          refine lv_lload_n hx hb dX3_putAbove_44 rfl (lv_at hl 3 rfl) ?_
          refine lv_aload_n hx hb dX3_putAbove_45 rfl (lv_at hl 4 rfl) ?_
          refine va_get (D := D) (ci := 2) (v := .ref behind3a) (C := RX3) (T := TX3) (N := 5) hx hb hts hinX3 hown hK.1 hP 0 rfl rfl 1 (by decide) hw1 (fun _ h9 => h9) rfl dX3_putAbove_46 ?_
          refine lv_iload hx hb dX3_putAbove_49 (lv_at hl 2 rfl) ?_
          obtain ⟨hi_31, h⟩ := gA_s h
          refine va_iald hx hb hK.1 hP 2 0 rfl rfl hi_31 dX3_putAbove_51 ?_
          refine lv_topi (fun v_32 ev_32 => ?_)
          have h := h v_32 ev_32
          refine lv_if_le (tgt := 59) hx hb dX3_putAbove_52 (by decide) (fun c_33 => ?_) (fun c_33 => ?_)
          · have h := it_p c_33 h
            refine lv_aload_n hx hb dX3_putAbove_59 rfl (lv_at hl 4 rfl) ?_
            refine va_get (D := D) (ci := 2) (v := .ref uppers3a) (C := RX3) (T := TX3) (N := 5) hx hb hts hinX3 hown hK.1 hP 0 rfl rfl 2 (by decide) hw3 (fun _ h9 => h9) rfl dX3_putAbove_60 ?_
            refine lv_iload hx hb dX3_putAbove_63 (lv_at hl 2 rfl) ?_
            obtain ⟨hi_34, h⟩ := gA_s h
            refine va_lald hx hb hK.1 hP 3 1 rfl rfl hi_34 dX3_putAbove_65 ?_
            refine lv_topl (fun v_35 ev_35 => ?_)
            have h := h v_35 ev_35
            refine lv_ladd hx hb dX3_putAbove_66 ?_
            refine lv_topl (fun j3_36 ej3_36 => ?_)
            have h := nm_s h j3_36 ej3_36
            refine lv_lstore_n (lv' := [(3, .long j3_36), (2, .int x2_30), (1, .int x1_16), (5, .int y5_5), (0, .ref h3)]) hx hb dX3_putAbove_67 rfl hl (by decide) rfl (fun ls hl => ?_)
            obtain ⟨x5_37, ex5_37⟩ : ∃ z : Int32, z = y5_5 + 1 := ⟨_, rfl⟩
            have h := nm_s h x5_37 ex5_37
            refine lv_iinc (v := x5_37) (lv' := [(5, .int x5_37), (3, .long j3_36), (2, .int x2_30), (1, .int x1_16), (0, .ref h3)]) hx hb dX3_putAbove_68 hl (k := 3) rfl (by rw [ex5_37]; rfl) (by decide) rfl (fun ls hl => ?_)
            refine lv_goto (tgt := 9) hx hb dX3_putAbove_71 (by decide) ?_
            exact ih _ _ _ _ _ _ _ _ h _ _ _ hP hD hS (lv_sub hl [0, 1, 2, 3, 4] rfl) K
          · have h := it_n c_33 h
            refine lv_lconst (v := 0) hx hb dX3_putAbove_55 (by decide) ?_
            refine lv_goto (tgt := 66) hx hb dX3_putAbove_56 (by decide) ?_
            refine lv_ladd hx hb dX3_putAbove_66 ?_
            refine lv_topl (fun j3_38 ej3_38 => ?_)
            have h := nm_s h j3_38 ej3_38
            refine lv_lstore_n (lv' := [(3, .long j3_38), (2, .int x2_30), (1, .int x1_16), (5, .int y5_5), (0, .ref h3)]) hx hb dX3_putAbove_67 rfl hl (by decide) rfl (fun ls hl => ?_)
            obtain ⟨x5_39, ex5_39⟩ : ∃ z : Int32, z = y5_5 + 1 := ⟨_, rfl⟩
            have h := nm_s h x5_39 ex5_39
            refine lv_iinc (v := x5_39) (lv' := [(5, .int x5_39), (3, .long j3_38), (2, .int x2_30), (1, .int x1_16), (0, .ref h3)]) hx hb dX3_putAbove_68 hl (k := 3) rfl (by rw [ex5_39]; rfl) (by decide) rfl (fun ls hl => ?_)
            refine lv_goto (tgt := 9) hx hb dX3_putAbove_71 (by decide) ?_
            exact ih _ _ _ _ _ _ _ _ h _ _ _ hP hD hS (lv_sub hl [0, 1, 2, 3, 4] rfl) K
  obtain ⟨⟨z5_40, z3_41, z2_42, z1_43⟩, hl_44, h⟩ := bd_s h
  refine L9 FU x5_4 j3_3 x2_2 x1_1 _ _ _ _ hl_44 _ _ _ hP hD hS (lv_sub hl [0, 1, 2, 3, 4] rfl) (fun H locs ls hP hD hS hl => ?_)
  refine lv_iload_n hx hb dX3_putAbove_74 rfl (lv_at hl 2 rfl) ?_
  refine lv_if_ne (tgt := 79) hx hb dX3_putAbove_75 (by decide) (fun c_45 => ?_) (fun c_45 => ?_)
  · have h := it_n c_45 h
    refine lv_iload_n hx hb dX3_putAbove_79 rfl (lv_at hl 1 rfl) ?_
    refine lv_bipush (v := 8) hx hb dX3_putAbove_80 (by decide) ?_
    refine lv_icmp_ne (tgt := 93) hx hb dX3_putAbove_82 (by decide) (fun c_46 => ?_) (fun c_46 => ?_)
    · have h := it_n c_46 h
      refine lv_aload_n hx hb dX3_putAbove_93 rfl (lv_at hl 3 rfl) ?_
      refine lv_iload_n hx hb dX3_putAbove_94 rfl (lv_at hl 2 rfl) ?_
      refine lv_iload_n hx hb dX3_putAbove_95 rfl (lv_at hl 1 rfl) ?_
      refine lv_lload_n hx hb dX3_putAbove_96 rfl (lv_at hl 0 rfl) ?_
      obtain ⟨⟨uppers3_47, lower3_48⟩, hc_49, h⟩ := bd_s h
      refine callTv (As := [.int z1_43, .int z2_42, .long z3_41]) (rest := []) ⟨hx, hb, hml, hown, hts⟩ (c_X3_handDown l D cI cJ h3 text3a behind3a uppers3a text3 behind3 uppers3 lower3 textLength3 z1_43 z2_42 z3_41 uppers3_47 lower3_48 hc_49) (cwV 3 hts gX3_putAbove_X3_handDown rfl rfl rfl (by decide +kernel) ⟨Nat.le_of_ble_eq_true rfl, Nat.le_of_ble_eq_true rfl⟩) hK hP hD hS hA 0 2 rfl rfl rfl rfl hl.1 rfl (Nat.le_of_ble_eq_true rfl) dX3_putAbove_97 ⟨Nat.zero_le _, Nat.zero_le _⟩ (fun H locs hP hD hS => ?_)
      cases h
      exact hret _ _ _ _ hP hD hS dX3_putAbove_100
    · have h := it_p c_46 h
      refine lv_aload_n hx hb dX3_putAbove_85 rfl (lv_at hl 3 rfl) ?_
      refine lv_iload_n hx hb dX3_putAbove_86 rfl (lv_at hl 2 rfl) ?_
      obtain ⟨⟨uppers3_50, lower3_51⟩, hc_52, h⟩ := bd_s h
      refine callTv (As := [.int z1_43]) (rest := []) ⟨hx, hb, hml, hown, hts⟩ (c_X3_takeCounts l D cI cJ h3 text3a behind3a uppers3a text3 behind3 uppers3 lower3 textLength3 z1_43 uppers3_50 lower3_51 hc_52) (cwV 1 hts gX3_putAbove_X3_takeCounts rfl rfl rfl (by decide +kernel) ⟨Nat.le_of_ble_eq_true rfl, Nat.le_of_ble_eq_true rfl⟩) hK hP hD hS hA 0 2 rfl rfl rfl rfl hl.1 rfl (Nat.le_of_ble_eq_true rfl) dX3_putAbove_87 ⟨Nat.zero_le _, Nat.zero_le _⟩ (fun H locs hP hD hS => ?_)
      refine lv_goto (tgt := 100) hx hb dX3_putAbove_90 (by decide) ?_
      cases h
      exact hret _ _ _ _ hP hD hS dX3_putAbove_100
  · have h := it_p c_45 h
    cases h
    exact hret _ _ _ _ hP hD hS dX3_putAbove_78
def f_X3_fill (i1 : Int32) (i2 : Int32) (text3 : Nat → Int32) (behind3 : Nat → Int32) (uppers3 : Nat → Int64) (lower3 : Int64) (textLength3 : Int32) : Option ((Nat → Int32) × (Nat → Int64) × Int64) :=
  Option.bind (f_X3_fillFirst text3 uppers3 lower3 textLength3) fun (uppers3_1, lower3_2) =>
  if i2 = (-1) then
    if i1 = (-1) then
      some (behind3, uppers3_1, lower3_2)
    else
      Option.bind (f_X3_countBehind i1 i2 text3 behind3 textLength3) fun behind3_6 =>
      Option.bind (f_X3_putAbove behind3_6 uppers3_1 lower3_2) fun (uppers3_8, lower3_9) =>
      some (behind3_6, uppers3_8, lower3_9)
  else
    Option.bind (f_X3_countBehind (-1) i2 text3 behind3 textLength3) fun behind3_11 =>
    Option.bind (f_X3_putAbove behind3_11 uppers3_1 lower3_2) fun (uppers3_13, lower3_14) =>
    if i1 = (-1) then
      some (behind3_11, uppers3_13, lower3_14)
    else
      Option.bind (f_X3_countBehind i1 i2 text3 behind3_11 textLength3) fun behind3_17 =>
      Option.bind (f_X3_putAbove behind3_17 uppers3_13 lower3_14) fun (uppers3_19, lower3_20) =>
      some (behind3_17, uppers3_19, lower3_20)
set_option maxHeartbeats 4000000 in
set_option maxRecDepth 100000 in
theorem c_X3_fill (l : Launch) (D : va_G) (cI cJ : ClassId) (h3 text3a behind3a uppers3a : Nat) (text3 : Nat → Int32) (behind3 : Nat → Int32) (uppers3 : Nat → Int64) (lower3 : Int64) (textLength3 : Int32) (i1 : Int32) (i2 : Int32) (behind3z : Nat → Int32) (uppers3z : Nat → Int64) (lower3z : Int64) (h : f_X3_fill i1 i2 text3 behind3 uppers3 lower3 textLength3 = some (behind3z, uppers3z, lower3z)) : CV l D cI cJ yX3_fill wsX3_fill 2 50 [.ref h3, .int i1, .int i2] (w3 cI cJ h3 text3a behind3a uppers3a text3 behind3 uppers3 lower3 textLength3) (w3 cI cJ h3 text3a behind3a uppers3a text3 behind3z uppers3z lower3z textLength3) := by
  refine entV (cc := cX3_fill) (maxL := 3) (by decide) rfl (Nat.le_of_ble_eq_true rfl) ?_
  intro p e s m args below meth c ls A Q X hret
  obtain ⟨hx, hb, hml, hts, hown, hK, hA, hP, hD, hS, hl, hnm⟩ := X
  have hown : s.vm.findClass RX3 = some m.cls := hown
  have hl : lv_has ls 3 [(0, .ref h3), (1, .int i1), (2, .int i2)] := hl
  unfold f_X3_fill at h
  refine lv_aload_n hx hb dX3_fill_0 rfl (lv_at hl 0 rfl) ?_
  obtain ⟨⟨uppers3_1, lower3_2⟩, hc_3, h⟩ := bd_s h
  refine callTv (As := []) (rest := []) ⟨hx, hb, hml, hown, hts⟩ (c_X3_fillFirst l D cI cJ h3 text3a behind3a uppers3a text3 behind3 uppers3 lower3 textLength3 uppers3_1 lower3_2 hc_3) (cwV 0 hts gX3_fill_X3_fillFirst rfl rfl rfl (by decide +kernel) ⟨Nat.le_of_ble_eq_true rfl, Nat.le_of_ble_eq_true rfl⟩) hK hP hD hS hA 0 2 rfl rfl rfl rfl hl.1 rfl (Nat.le_of_ble_eq_true rfl) dX3_fill_1 ⟨Nat.zero_le _, Nat.zero_le _⟩ (fun H locs hP hD hS => ?_)
  refine lv_iload_n hx hb dX3_fill_4 rfl (lv_at hl 2 rfl) ?_
  refine lv_iconst (v := (-1)) hx hb dX3_fill_5 (by decide) ?_
  refine lv_icmp_eq (tgt := 19) hx hb dX3_fill_6 (by decide) (fun c_4 => ?_) (fun c_4 => ?_)
  · have h := it_p c_4 h
    refine lv_iload_n hx hb dX3_fill_19 rfl (lv_at hl 1 rfl) ?_
    refine lv_iconst (v := (-1)) hx hb dX3_fill_20 (by decide) ?_
    refine lv_icmp_eq (tgt := 34) hx hb dX3_fill_21 (by decide) (fun c_5 => ?_) (fun c_5 => ?_)
    · have h := it_p c_5 h
      cases h
      exact hret _ _ _ _ hP hD hS dX3_fill_34
    · have h := it_n c_5 h
      refine lv_aload_n hx hb dX3_fill_24 rfl (lv_at hl 0 rfl) ?_
      refine lv_iload_n hx hb dX3_fill_25 rfl (lv_at hl 1 rfl) ?_
      refine lv_iload_n hx hb dX3_fill_26 rfl (lv_at hl 2 rfl) ?_
      obtain ⟨behind3_6, hc_7, h⟩ := bd_s h
      refine callTv (As := [.int i1, .int i2]) (rest := []) ⟨hx, hb, hml, hown, hts⟩ (c_X3_countBehind l D cI cJ h3 text3a behind3a uppers3a text3 behind3 uppers3_1 lower3_2 textLength3 i1 i2 behind3_6 hc_7) (cwV 2 hts gX3_fill_X3_countBehind rfl rfl rfl (by decide +kernel) ⟨Nat.le_of_ble_eq_true rfl, Nat.le_of_ble_eq_true rfl⟩) hK hP hD hS hA 0 2 rfl rfl rfl rfl hl.1 rfl (Nat.le_of_ble_eq_true rfl) dX3_fill_27 ⟨Nat.zero_le _, Nat.zero_le _⟩ (fun H locs hP hD hS => ?_)
      refine lv_aload_n hx hb dX3_fill_30 rfl (lv_at hl 0 rfl) ?_
      obtain ⟨⟨uppers3_8, lower3_9⟩, hc_10, h⟩ := bd_s h
      refine callTv (As := []) (rest := []) ⟨hx, hb, hml, hown, hts⟩ (c_X3_putAbove l D cI cJ h3 text3a behind3a uppers3a text3 behind3_6 uppers3_1 lower3_2 textLength3 uppers3_8 lower3_9 hc_10) (cwV 0 hts gX3_fill_X3_putAbove rfl rfl rfl (by decide +kernel) ⟨Nat.le_of_ble_eq_true rfl, Nat.le_of_ble_eq_true rfl⟩) hK hP hD hS hA 0 2 rfl rfl rfl rfl hl.1 rfl (Nat.le_of_ble_eq_true rfl) dX3_fill_31 ⟨Nat.zero_le _, Nat.zero_le _⟩ (fun H locs hP hD hS => ?_)
      cases h
      exact hret _ _ _ _ hP hD hS dX3_fill_34
  · have h := it_n c_4 h
    refine lv_aload_n hx hb dX3_fill_9 rfl (lv_at hl 0 rfl) ?_
    refine lv_iconst (v := (-1)) hx hb dX3_fill_10 (by decide) ?_
    refine lv_iload_n hx hb dX3_fill_11 rfl (lv_at hl 2 rfl) ?_
    obtain ⟨behind3_11, hc_12, h⟩ := bd_s h
    refine callTv (As := [.int (-1), .int i2]) (rest := []) ⟨hx, hb, hml, hown, hts⟩ (c_X3_countBehind l D cI cJ h3 text3a behind3a uppers3a text3 behind3 uppers3_1 lower3_2 textLength3 (-1) i2 behind3_11 hc_12) (cwV 2 hts gX3_fill_X3_countBehind rfl rfl rfl (by decide +kernel) ⟨Nat.le_of_ble_eq_true rfl, Nat.le_of_ble_eq_true rfl⟩) hK hP hD hS hA 0 2 rfl rfl rfl rfl hl.1 rfl (Nat.le_of_ble_eq_true rfl) dX3_fill_12 ⟨Nat.zero_le _, Nat.zero_le _⟩ (fun H locs hP hD hS => ?_)
    refine lv_aload_n hx hb dX3_fill_15 rfl (lv_at hl 0 rfl) ?_
    obtain ⟨⟨uppers3_13, lower3_14⟩, hc_15, h⟩ := bd_s h
    refine callTv (As := []) (rest := []) ⟨hx, hb, hml, hown, hts⟩ (c_X3_putAbove l D cI cJ h3 text3a behind3a uppers3a text3 behind3_11 uppers3_1 lower3_2 textLength3 uppers3_13 lower3_14 hc_15) (cwV 0 hts gX3_fill_X3_putAbove rfl rfl rfl (by decide +kernel) ⟨Nat.le_of_ble_eq_true rfl, Nat.le_of_ble_eq_true rfl⟩) hK hP hD hS hA 0 2 rfl rfl rfl rfl hl.1 rfl (Nat.le_of_ble_eq_true rfl) dX3_fill_16 ⟨Nat.zero_le _, Nat.zero_le _⟩ (fun H locs hP hD hS => ?_)
    refine lv_iload_n hx hb dX3_fill_19 rfl (lv_at hl 1 rfl) ?_
    refine lv_iconst (v := (-1)) hx hb dX3_fill_20 (by decide) ?_
    refine lv_icmp_eq (tgt := 34) hx hb dX3_fill_21 (by decide) (fun c_16 => ?_) (fun c_16 => ?_)
    · have h := it_p c_16 h
      cases h
      exact hret _ _ _ _ hP hD hS dX3_fill_34
    · have h := it_n c_16 h
      refine lv_aload_n hx hb dX3_fill_24 rfl (lv_at hl 0 rfl) ?_
      refine lv_iload_n hx hb dX3_fill_25 rfl (lv_at hl 1 rfl) ?_
      refine lv_iload_n hx hb dX3_fill_26 rfl (lv_at hl 2 rfl) ?_
      obtain ⟨behind3_17, hc_18, h⟩ := bd_s h
      refine callTv (As := [.int i1, .int i2]) (rest := []) ⟨hx, hb, hml, hown, hts⟩ (c_X3_countBehind l D cI cJ h3 text3a behind3a uppers3a text3 behind3_11 uppers3_13 lower3_14 textLength3 i1 i2 behind3_17 hc_18) (cwV 2 hts gX3_fill_X3_countBehind rfl rfl rfl (by decide +kernel) ⟨Nat.le_of_ble_eq_true rfl, Nat.le_of_ble_eq_true rfl⟩) hK hP hD hS hA 0 2 rfl rfl rfl rfl hl.1 rfl (Nat.le_of_ble_eq_true rfl) dX3_fill_27 ⟨Nat.zero_le _, Nat.zero_le _⟩ (fun H locs hP hD hS => ?_)
      refine lv_aload_n hx hb dX3_fill_30 rfl (lv_at hl 0 rfl) ?_
      obtain ⟨⟨uppers3_19, lower3_20⟩, hc_21, h⟩ := bd_s h
      refine callTv (As := []) (rest := []) ⟨hx, hb, hml, hown, hts⟩ (c_X3_putAbove l D cI cJ h3 text3a behind3a uppers3a text3 behind3_17 uppers3_13 lower3_14 textLength3 uppers3_19 lower3_20 hc_21) (cwV 0 hts gX3_fill_X3_putAbove rfl rfl rfl (by decide +kernel) ⟨Nat.le_of_ble_eq_true rfl, Nat.le_of_ble_eq_true rfl⟩) hK hP hD hS hA 0 2 rfl rfl rfl rfl hl.1 rfl (Nat.le_of_ble_eq_true rfl) dX3_fill_31 ⟨Nat.zero_le _, Nat.zero_le _⟩ (fun H locs hP hD hS => ?_)
      cases h
      exact hret _ _ _ _ hP hD hS dX3_fill_34
def f_X3_upperOf (i1 : Int32) (uppers3 : Nat → Int64) : Option (Int64) :=
  gA 8 uppers3 i1 fun v_2 =>
  some v_2
set_option maxHeartbeats 4000000 in
set_option maxRecDepth 100000 in
theorem c_X3_upperOf (l : Launch) (D : va_G) (cI cJ : ClassId) (h3 text3a behind3a uppers3a : Nat) (text3 : Nat → Int32) (behind3 : Nat → Int32) (uppers3 : Nat → Int64) (lower3 : Int64) (textLength3 : Int32) (i1 : Int32) (ret9 : Int64) (h : f_X3_upperOf i1 uppers3 = some ret9) : CL l D cI cJ yX3_upperOf wsX3_upperOf 0 0 [.ref h3, .int i1] (w3 cI cJ h3 text3a behind3a uppers3a text3 behind3 uppers3 lower3 textLength3) (w3 cI cJ h3 text3a behind3a uppers3a text3 behind3 uppers3 lower3 textLength3) ret9 := by
  refine entL (cc := cX3_upperOf) (maxL := 2) (by decide) rfl (Nat.le_of_ble_eq_true rfl) ?_
  intro p e s m args below meth c ls A Q X hret
  obtain ⟨hx, hb, hml, hts, hown, hK, hA, hP, hD, hS, hl, hnm⟩ := X
  have hown : s.vm.findClass RX3 = some m.cls := hown
  have hl : lv_has ls 2 [(0, .ref h3), (1, .int i1)] := hl
  have hw1 : (Cond.fieldLink RX3 18 "CountLearners$TextTables" "uppers" "[J").before args s = true := hts _ (by decide +kernel)
  have hinX3 : ∀ w ∈ wsX30, w ∈ wsX3_upperOf := by decide +kernel
  unfold f_X3_upperOf at h
  refine lv_aload_n hx hb dX3_upperOf_0 rfl (lv_at hl 0 rfl) ?_
  refine va_get (D := D) (ci := 2) (v := .ref uppers3a) (C := RX3) (T := TX3) (N := 5) hx hb hts hinX3 hown hK.1 hP 0 rfl rfl 2 (by decide) hw1 (fun _ h9 => h9) rfl dX3_upperOf_1 ?_
  refine lv_iload_n hx hb dX3_upperOf_4 rfl (lv_at hl 1 rfl) ?_
  obtain ⟨hi_1, h⟩ := gA_s h
  refine va_lald hx hb hK.1 hP 3 1 rfl rfl hi_1 dX3_upperOf_5 ?_
  refine lv_topl (fun v_2 ev_2 => ?_)
  have h := h v_2 ev_2
  cases h
  exact hret _ _ _ _ hP hD hS dX3_upperOf_6
def f_X3_lowerOfAll (lower3 : Int64) : Option (Int64) :=
  some lower3
set_option maxHeartbeats 4000000 in
set_option maxRecDepth 100000 in
theorem c_X3_lowerOfAll (l : Launch) (D : va_G) (cI cJ : ClassId) (h3 text3a behind3a uppers3a : Nat) (text3 : Nat → Int32) (behind3 : Nat → Int32) (uppers3 : Nat → Int64) (lower3 : Int64) (textLength3 : Int32) (ret9 : Int64) (h : f_X3_lowerOfAll lower3 = some ret9) : CL l D cI cJ yX3_lowerOfAll wsX3_lowerOfAll 0 0 [.ref h3] (w3 cI cJ h3 text3a behind3a uppers3a text3 behind3 uppers3 lower3 textLength3) (w3 cI cJ h3 text3a behind3a uppers3a text3 behind3 uppers3 lower3 textLength3) ret9 := by
  refine entL (cc := cX3_lowerOfAll) (maxL := 1) (by decide) rfl (Nat.le_of_ble_eq_true rfl) ?_
  intro p e s m args below meth c ls A Q X hret
  obtain ⟨hx, hb, hml, hts, hown, hK, hA, hP, hD, hS, hl, hnm⟩ := X
  have hown : s.vm.findClass RX3 = some m.cls := hown
  have hl : lv_has ls 1 [(0, .ref h3)] := hl
  have hw1 : (Cond.fieldLink RX3 22 "CountLearners$TextTables" "lower" "J").before args s = true := hts _ (by decide +kernel)
  have hinX3 : ∀ w ∈ wsX30, w ∈ wsX3_lowerOfAll := by decide +kernel
  unfold f_X3_lowerOfAll at h
  refine lv_aload_n hx hb dX3_lowerOfAll_0 rfl (lv_at hl 0 rfl) ?_
  refine va_get (D := D) (ci := 2) (v := .long lower3) (C := RX3) (T := TX3) (N := 5) hx hb hts hinX3 hown hK.1 hP 0 rfl rfl 3 (by decide) hw1 (fun _ h9 => h9) rfl dX3_lowerOfAll_1 ?_
  cases h
  exact hret _ _ _ _ hP hD hS dX3_lowerOfAll_4
def f_X3_greatest_L4 (uppers3 : Nat → Int64) : Nat → Int32 → Int32 → Option (Int32 × Int32)
  | 0, _, _ => none
  | n + 1, y2_3, y1_4 =>
  if 8 ≤ y2_3 then
    some (y2_3, y1_4)
  else
    gA 8 uppers3 y2_3 fun v_9 =>
    gA 8 uppers3 y1_4 fun v_11 =>
    if (lg_cmp v_9 v_11) ≤ 0 then
      nm (α := Int32) (y2_3 + 1) fun x2_13 =>
      f_X3_greatest_L4 uppers3 n x2_13 y1_4
    else
      nm (α := Int32) (y2_3) fun x1_14 =>
      nm (α := Int32) (y2_3 + 1) fun x2_15 =>
      f_X3_greatest_L4 uppers3 n x2_15 x1_14
def f_X3_greatest (uppers3 : Nat → Int64) : Option (Int32) :=
  nm (α := Int32) (0) fun x1_1 =>
  nm (α := Int32) (1) fun x2_2 =>
  Option.bind (f_X3_greatest_L4 uppers3 FU x2_2 x1_1) fun (z2_16, z1_17) =>
  some z1_17
set_option maxHeartbeats 4000000 in
set_option maxRecDepth 100000 in
theorem c_X3_greatest (l : Launch) (D : va_G) (cI cJ : ClassId) (h3 text3a behind3a uppers3a : Nat) (text3 : Nat → Int32) (behind3 : Nat → Int32) (uppers3 : Nat → Int64) (lower3 : Int64) (textLength3 : Int32) (ret9 : Int32) (h : f_X3_greatest uppers3 = some ret9) : CI l D cI cJ yX3_greatest wsX3_greatest 0 0 [.ref h3] (w3 cI cJ h3 text3a behind3a uppers3a text3 behind3 uppers3 lower3 textLength3) (w3 cI cJ h3 text3a behind3a uppers3a text3 behind3 uppers3 lower3 textLength3) ret9 := by
  refine entI (cc := cX3_greatest) (maxL := 3) (by decide) rfl (Nat.le_of_ble_eq_true rfl) ?_
  intro p e s m args below meth c ls A Q X hret
  obtain ⟨hx, hb, hml, hts, hown, hK, hA, hP, hD, hS, hl, hnm⟩ := X
  have hown : s.vm.findClass RX3 = some m.cls := hown
  have hl : lv_has ls 3 [(0, .ref h3)] := hl
  have hw1 : (Cond.fieldLink RX3 18 "CountLearners$TextTables" "uppers" "[J").before args s = true := hts _ (by decide +kernel)
  have hinX3 : ∀ w ∈ wsX30, w ∈ wsX3_greatest := by decide +kernel
  unfold f_X3_greatest at h
  refine lv_iconst (v := 0) hx hb dX3_greatest_0 (by decide) ?_
  refine lv_topi (fun x1_1 ex1_1 => ?_)
  have h := nm_s h x1_1 ex1_1
  refine lv_istore_n (lv' := [(1, .int x1_1), (0, .ref h3)]) hx hb dX3_greatest_1 rfl hl (by decide) rfl (fun ls hl => ?_)
  refine lv_iconst (v := 1) hx hb dX3_greatest_2 (by decide) ?_
  refine lv_topi (fun x2_2 ex2_2 => ?_)
  have h := nm_s h x2_2 ex2_2
  refine lv_istore_n (lv' := [(2, .int x2_2), (1, .int x1_1), (0, .ref h3)]) hx hb dX3_greatest_3 rfl hl (by decide) rfl (fun ls hl => ?_)
  have L4 : ∀ (n : Nat) (y2_3 : Int32) (y1_4 : Int32) (z2_5 : Int32) (z1_6 : Int32), f_X3_greatest_L4 uppers3 n y2_3 y1_4 = some (z2_5, z1_6) → ∀ (H : Heap) (locs : List Loc) (ls : Array Slot), va_P D vwK (w3 cI cJ h3 text3a behind3a uppers3a text3 behind3 uppers3 lower3 textLength3) H → va_D A (w3 cI cJ h3 text3a behind3a uppers3a text3 behind3 uppers3 lower3 textLength3) → va_S A s.heap H locs → lv_has ls 3 [(2, .int y2_3), (1, .int y1_4), (0, .ref h3)] → (∀ (H : Heap) (locs : List Loc) (ls : Array Slot), va_P D vwK (w3 cI cJ h3 text3a behind3a uppers3a text3 behind3 uppers3 lower3 textLength3) H → va_D A (w3 cI cJ h3 text3a behind3a uppers3a text3 behind3 uppers3 lower3 textLength3) → va_S A s.heap H locs → lv_has ls 3 [(1, .int z1_6)] → W p l e (rmOf 0 0) s m args below meth c H locs 0 0 Q (F0 m 34 ls [])) → W p l e (rmOf 0 0) s m args below meth c H locs 0 0 Q (F0 m 4 ls []) := by
    intro n
    induction n with
    | zero => intro y2_3 y1_4 z2_5 z1_6 h; rw [f_X3_greatest_L4.eq_1] at h; cases h
    | succ n ih =>
      intro y2_3 y1_4 z2_5 z1_6 h H locs ls hP hD hS hl K
      rw [f_X3_greatest_L4.eq_2] at h
      refine lv_iload_n hx hb dX3_greatest_4 rfl (lv_at hl 0 rfl) ?_
      refine lv_bipush (v := 8) hx hb dX3_greatest_5 (by decide) ?_
      refine lv_icmp_ge (tgt := 34) hx hb dX3_greatest_7 (by decide) (fun c_7 => ?_) (fun c_7 => ?_)
      · have h := it_p c_7 h
        cases h
        exact K _ _ _ hP hD hS (lv_sub hl [1] rfl)
      · have h := it_n c_7 h
        refine lv_aload_n hx hb dX3_greatest_10 rfl (lv_at hl 2 rfl) ?_
        refine va_get (D := D) (ci := 2) (v := .ref uppers3a) (C := RX3) (T := TX3) (N := 5) hx hb hts hinX3 hown hK.1 hP 0 rfl rfl 2 (by decide) hw1 (fun _ h9 => h9) rfl dX3_greatest_11 ?_
        refine lv_iload_n hx hb dX3_greatest_14 rfl (lv_at hl 0 rfl) ?_
        obtain ⟨hi_8, h⟩ := gA_s h
        refine va_lald hx hb hK.1 hP 3 1 rfl rfl hi_8 dX3_greatest_15 ?_
        refine lv_topl (fun v_9 ev_9 => ?_)
        have h := h v_9 ev_9
        refine lv_aload_n hx hb dX3_greatest_16 rfl (lv_at hl 2 rfl) ?_
        refine va_get (D := D) (ci := 2) (v := .ref uppers3a) (C := RX3) (T := TX3) (N := 5) hx hb hts hinX3 hown hK.1 hP 0 rfl rfl 2 (by decide) hw1 (fun _ h9 => h9) rfl dX3_greatest_17 ?_
        refine lv_iload_n hx hb dX3_greatest_20 rfl (lv_at hl 1 rfl) ?_
        obtain ⟨hi_10, h⟩ := gA_s h
        refine va_lald hx hb hK.1 hP 3 1 rfl rfl hi_10 dX3_greatest_21 ?_
        refine lv_topl (fun v_11 ev_11 => ?_)
        have h := h v_11 ev_11
        refine W.lcmp hx hb dX3_greatest_22 ?_
        refine lv_if_le (tgt := 28) hx hb dX3_greatest_23 (by decide) (fun c_12 => ?_) (fun c_12 => ?_)
        · have h := it_p c_12 h
          obtain ⟨x2_13, ex2_13⟩ : ∃ z : Int32, z = y2_3 + 1 := ⟨_, rfl⟩
          have h := nm_s h x2_13 ex2_13
          refine lv_iinc (v := x2_13) (lv' := [(2, .int x2_13), (1, .int y1_4), (0, .ref h3)]) hx hb dX3_greatest_28 hl (k := 0) rfl (by rw [ex2_13]; rfl) (by decide) rfl (fun ls hl => ?_)
          refine lv_goto (tgt := 4) hx hb dX3_greatest_31 (by decide) ?_
          exact ih _ _ _ _ h _ _ _ hP hD hS (lv_sub hl [0, 1, 2] rfl) K
        · have h := it_n c_12 h
          refine lv_iload_n hx hb dX3_greatest_26 rfl (lv_at hl 0 rfl) ?_
          refine lv_topi (fun x1_14 ex1_14 => ?_)
          have h := nm_s h x1_14 ex1_14
          refine lv_istore_n (lv' := [(1, .int x1_14), (2, .int y2_3), (0, .ref h3)]) hx hb dX3_greatest_27 rfl hl (by decide) rfl (fun ls hl => ?_)
          obtain ⟨x2_15, ex2_15⟩ : ∃ z : Int32, z = y2_3 + 1 := ⟨_, rfl⟩
          have h := nm_s h x2_15 ex2_15
          refine lv_iinc (v := x2_15) (lv' := [(2, .int x2_15), (1, .int x1_14), (0, .ref h3)]) hx hb dX3_greatest_28 hl (k := 1) rfl (by rw [ex2_15]; rfl) (by decide) rfl (fun ls hl => ?_)
          refine lv_goto (tgt := 4) hx hb dX3_greatest_31 (by decide) ?_
          exact ih _ _ _ _ h _ _ _ hP hD hS (lv_sub hl [0, 1, 2] rfl) K
  obtain ⟨⟨z2_16, z1_17⟩, hl_18, h⟩ := bd_s h
  refine L4 FU x2_2 x1_1 _ _ hl_18 _ _ _ hP hD hS (lv_sub hl [0, 1, 2] rfl) (fun H locs ls hP hD hS hl => ?_)
  refine lv_iload_n hx hb dX3_greatest_34 rfl (lv_at hl 0 rfl) ?_
  cases h
  exact hret _ _ _ _ hP hD hS dX3_greatest_35
def f_X3_length (textLength3 : Int32) : Option (Int32) :=
  some textLength3
set_option maxHeartbeats 4000000 in
set_option maxRecDepth 100000 in
theorem c_X3_length (l : Launch) (D : va_G) (cI cJ : ClassId) (h3 text3a behind3a uppers3a : Nat) (text3 : Nat → Int32) (behind3 : Nat → Int32) (uppers3 : Nat → Int64) (lower3 : Int64) (textLength3 : Int32) (ret9 : Int32) (h : f_X3_length textLength3 = some ret9) : CI l D cI cJ yX3_length wsX3_length 0 0 [.ref h3] (w3 cI cJ h3 text3a behind3a uppers3a text3 behind3 uppers3 lower3 textLength3) (w3 cI cJ h3 text3a behind3a uppers3a text3 behind3 uppers3 lower3 textLength3) ret9 := by
  refine entI (cc := cX3_length) (maxL := 1) (by decide) rfl (Nat.le_of_ble_eq_true rfl) ?_
  intro p e s m args below meth c ls A Q X hret
  obtain ⟨hx, hb, hml, hts, hown, hK, hA, hP, hD, hS, hl, hnm⟩ := X
  have hown : s.vm.findClass RX3 = some m.cls := hown
  have hl : lv_has ls 1 [(0, .ref h3)] := hl
  have hw1 : (Cond.fieldLink RX3 26 "CountLearners$TextTables" "textLength" "I").before args s = true := hts _ (by decide +kernel)
  have hinX3 : ∀ w ∈ wsX30, w ∈ wsX3_length := by decide +kernel
  unfold f_X3_length at h
  refine lv_aload_n hx hb dX3_length_0 rfl (lv_at hl 0 rfl) ?_
  refine va_get (D := D) (ci := 2) (v := .int textLength3) (C := RX3) (T := TX3) (N := 5) hx hb hts hinX3 hown hK.1 hP 0 rfl rfl 4 (by decide) hw1 (fun _ h9 => h9) rfl dX3_length_1 ?_
  cases h
  exact hret _ _ _ _ hP hD hS dX3_length_4
