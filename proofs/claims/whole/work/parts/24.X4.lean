def f_X4_countPairs_L2 (i1 : Int32) (i2 : Int32) : Nat → Int32 → (Nat → Int32) → Option (Int32 × (Nat → Int32))
  | 0, _, _ => none
  | n + 1, y3_2, support4_3 =>
  if 8 ≤ y3_2 then
    some (y3_2, support4_3)
  else
    if y3_2 = i1 then
      nm (α := Int32) (y3_2 + 1) fun x3_8 =>
      f_X4_countPairs_L2 i1 i2 n x3_8 support4_3
    else
      if ((i2 >>> (y3_2 &&& 31)) &&& 1) = 0 then
        nm (α := Int32) (y3_2 + 1) fun x3_10 =>
        f_X4_countPairs_L2 i1 i2 n x3_10 support4_3
      else
        gA 64 support4_3 ((i1 * 8) + y3_2) fun v_12 =>
        sI 64 support4_3 ((i1 * 8) + y3_2) (v_12 + 1) fun support4_14 =>
        nm (α := Int32) (y3_2 + 1) fun x3_15 =>
        f_X4_countPairs_L2 i1 i2 n x3_15 support4_14
def f_X4_countPairs (i1 : Int32) (i2 : Int32) (support4 : Nat → Int32) : Option ((Nat → Int32)) :=
  nm (α := Int32) (0) fun x3_1 =>
  Option.bind (f_X4_countPairs_L2 i1 i2 FU x3_1 support4) fun (z3_16, support4_17) =>
  some support4_17
set_option maxHeartbeats 4000000 in
set_option maxRecDepth 100000 in
theorem c_X4_countPairs (l : Launch) (D : va_G) (cI cJ : ClassId) (h4 support4a having4a keys4a : Nat) (support4 : Nat → Int32) (having4 : Nat → Int32) (keys4 : Nat → Int32) (ruleCount4 : Int32) (i1 : Int32) (i2 : Int32) (support4z : Nat → Int32) (h : f_X4_countPairs i1 i2 support4 = some support4z) : CV l D cI cJ yX4_countPairs wsX4_countPairs 0 0 [.ref h4, .int i1, .int i2] (w4 cI cJ h4 support4a having4a keys4a support4 having4 keys4 ruleCount4) (w4 cI cJ h4 support4a having4a keys4a support4z having4 keys4 ruleCount4) := by
  refine entV (cc := cX4_countPairs) (maxL := 4) (by decide) rfl (Nat.le_of_ble_eq_true rfl) ?_
  intro p e s m args below meth c ls A Q X hret
  obtain ⟨hx, hb, hml, hts, hown, hK, hA, hP, hD, hS, hl, hnm⟩ := X
  have hown : s.vm.findClass RX4 = some m.cls := hown
  have hl : lv_has ls 4 [(0, .ref h4), (1, .int i1), (2, .int i2)] := hl
  have hw1 : (Cond.fieldLink RX4 11 "CountLearners$WordRules" "support" "[I").before args s = true := hts _ (by decide +kernel)
  have hinX4 : ∀ w ∈ wsX40, w ∈ wsX4_countPairs := by decide +kernel
  unfold f_X4_countPairs at h
  refine lv_iconst (v := 0) hx hb dX4_countPairs_0 (by decide) ?_
  refine lv_topi (fun x3_1 ex3_1 => ?_)
  have h := nm_s h x3_1 ex3_1
  refine lv_istore_n (lv' := [(3, .int x3_1), (0, .ref h4), (1, .int i1), (2, .int i2)]) hx hb dX4_countPairs_1 rfl hl (by decide) rfl (fun ls hl => ?_)
  have L2 : ∀ (n : Nat) (y3_2 : Int32) (support4_3 : Nat → Int32) (z3_4 : Int32) (support4_5 : Nat → Int32), f_X4_countPairs_L2 i1 i2 n y3_2 support4_3 = some (z3_4, support4_5) → ∀ (H : Heap) (locs : List Loc) (ls : Array Slot), va_P D vwK (w4 cI cJ h4 support4a having4a keys4a support4_3 having4 keys4 ruleCount4) H → va_D A (w4 cI cJ h4 support4a having4a keys4a support4_3 having4 keys4 ruleCount4) → va_S A s.heap H locs → lv_has ls 4 [(3, .int y3_2), (0, .ref h4), (1, .int i1), (2, .int i2)] → (∀ (H : Heap) (locs : List Loc) (ls : Array Slot), va_P D vwK (w4 cI cJ h4 support4a having4a keys4a support4_5 having4 keys4 ruleCount4) H → va_D A (w4 cI cJ h4 support4a having4a keys4a support4_5 having4 keys4 ruleCount4) → va_S A s.heap H locs → lv_has ls 4 [] → W p l e (rmOf 0 0) s m args below meth c H locs 0 0 Q (F0 m 42 ls [])) → W p l e (rmOf 0 0) s m args below meth c H locs 0 0 Q (F0 m 2 ls []) := by
    intro n
    induction n with
    | zero => intro y3_2 support4_3 z3_4 support4_5 h; rw [f_X4_countPairs_L2.eq_1] at h; cases h
    | succ n ih =>
      intro y3_2 support4_3 z3_4 support4_5 h H locs ls hP hD hS hl K
      rw [f_X4_countPairs_L2.eq_2] at h
      refine lv_iload_n hx hb dX4_countPairs_2 rfl (lv_at hl 0 rfl) ?_
      refine lv_bipush (v := 8) hx hb dX4_countPairs_3 (by decide) ?_
      refine lv_icmp_ge (tgt := 42) hx hb dX4_countPairs_5 (by decide) (fun c_6 => ?_) (fun c_6 => ?_)
      · have h := it_p c_6 h
        cases h
        exact K _ _ _ hP hD hS (lv_sub hl [] rfl)
      · have h := it_n c_6 h
        refine lv_iload_n hx hb dX4_countPairs_8 rfl (lv_at hl 0 rfl) ?_
        refine lv_iload_n hx hb dX4_countPairs_9 rfl (lv_at hl 2 rfl) ?_
        refine lv_icmp_eq (tgt := 36) hx hb dX4_countPairs_10 (by decide) (fun c_7 => ?_) (fun c_7 => ?_)
        · have h := it_p c_7 h
          obtain ⟨x3_8, ex3_8⟩ : ∃ z : Int32, z = y3_2 + 1 := ⟨_, rfl⟩
          have h := nm_s h x3_8 ex3_8
          refine lv_iinc (v := x3_8) (lv' := [(3, .int x3_8), (0, .ref h4), (1, .int i1), (2, .int i2)]) hx hb dX4_countPairs_36 hl (k := 0) rfl (by rw [ex3_8]; rfl) (by decide) rfl (fun ls hl => ?_)
          refine lv_goto (tgt := 2) hx hb dX4_countPairs_39 (by decide) ?_
          exact ih _ _ _ _ h _ _ _ hP hD hS (lv_sub hl [0, 1, 2, 3] rfl) K
        · have h := it_n c_7 h
          refine lv_iload_n hx hb dX4_countPairs_13 rfl (lv_at hl 3 rfl) ?_
          refine lv_iload_n hx hb dX4_countPairs_14 rfl (lv_at hl 0 rfl) ?_
          refine lv_ishr hx hb dX4_countPairs_15 ?_
          refine lv_iconst (v := 1) hx hb dX4_countPairs_16 (by decide) ?_
          refine lv_iand hx hb dX4_countPairs_17 ?_
          refine lv_if_eq (tgt := 36) hx hb dX4_countPairs_18 (by decide) (fun c_9 => ?_) (fun c_9 => ?_)
          · have h := it_p c_9 h
            obtain ⟨x3_10, ex3_10⟩ : ∃ z : Int32, z = y3_2 + 1 := ⟨_, rfl⟩
            have h := nm_s h x3_10 ex3_10
            refine lv_iinc (v := x3_10) (lv' := [(3, .int x3_10), (0, .ref h4), (1, .int i1), (2, .int i2)]) hx hb dX4_countPairs_36 hl (k := 0) rfl (by rw [ex3_10]; rfl) (by decide) rfl (fun ls hl => ?_)
            refine lv_goto (tgt := 2) hx hb dX4_countPairs_39 (by decide) ?_
            exact ih _ _ _ _ h _ _ _ hP hD hS (lv_sub hl [0, 1, 2, 3] rfl) K
          · have h := it_n c_9 h
            refine lv_aload_n hx hb dX4_countPairs_21 rfl (lv_at hl 1 rfl) ?_
            refine va_get (D := D) (ci := 3) (v := .ref support4a) (C := RX4) (T := TX4) (N := 4) hx hb hts hinX4 hown hK.1 hP 0 rfl rfl 0 (by decide) hw1 (fun _ h9 => h9) rfl dX4_countPairs_22 ?_
            refine lv_iload_n hx hb dX4_countPairs_25 rfl (lv_at hl 2 rfl) ?_
            refine lv_bipush (v := 8) hx hb dX4_countPairs_26 (by decide) ?_
            refine lv_imul hx hb dX4_countPairs_28 ?_
            refine lv_iload_n hx hb dX4_countPairs_29 rfl (lv_at hl 0 rfl) ?_
            refine lv_iadd hx hb dX4_countPairs_30 ?_
            refine lv_dup2_11 hx hb dX4_countPairs_31 rfl rfl ?_
            obtain ⟨hi_11, h⟩ := gA_s h
            refine va_iald hx hb hK.1 hP 1 0 rfl rfl hi_11 dX4_countPairs_32 ?_
            refine lv_topi (fun v_12 ev_12 => ?_)
            have h := h v_12 ev_12
            refine lv_iconst (v := 1) hx hb dX4_countPairs_33 (by decide) ?_
            refine lv_iadd hx hb dX4_countPairs_34 ?_
            obtain ⟨hi_13, h⟩ := sI_s h
            refine va_iast hx hb hK.1 hP hD hS 1 0 rfl rfl hi_13 dX4_countPairs_35 (fun H locs hP hD hS => ?_)
            obtain ⟨support4_14, esupport4_14⟩ : ∃ z, z = upd support4_3 (Int32.toNatClampNeg ((i1 * 8) + y3_2)) (v_12 + 1) := ⟨_, rfl⟩
            have h := h support4_14 esupport4_14
            rw [← esupport4_14] at hP hD
            have hP : va_P D vwK (w4 cI cJ h4 support4a having4a keys4a support4_14 having4 keys4 ruleCount4) H := hP
            have hD : va_D A (w4 cI cJ h4 support4a having4a keys4a support4_14 having4 keys4 ruleCount4) := hD
            obtain ⟨x3_15, ex3_15⟩ : ∃ z : Int32, z = y3_2 + 1 := ⟨_, rfl⟩
            have h := nm_s h x3_15 ex3_15
            refine lv_iinc (v := x3_15) (lv' := [(3, .int x3_15), (0, .ref h4), (1, .int i1), (2, .int i2)]) hx hb dX4_countPairs_36 hl (k := 0) rfl (by rw [ex3_15]; rfl) (by decide) rfl (fun ls hl => ?_)
            refine lv_goto (tgt := 2) hx hb dX4_countPairs_39 (by decide) ?_
            exact ih _ _ _ _ h _ _ _ hP hD hS (lv_sub hl [0, 1, 2, 3] rfl) K
  obtain ⟨⟨z3_16, support4_17⟩, hl_18, h⟩ := bd_s h
  refine L2 FU x3_1 support4 _ _ hl_18 _ _ _ hP hD hS (lv_sub hl [0, 1, 2, 3] rfl) (fun H locs ls hP hD hS hl => ?_)
  cases h
  exact hret _ _ _ _ hP hD hS dX4_countPairs_42
def f_X4_countSet_L2 (i1 : Int32) : Nat → Int32 → (Nat → Int32) → (Nat → Int32) → Option (Int32 × (Nat → Int32) × (Nat → Int32))
  | 0, _, _, _ => none
  | n + 1, y2_2, support4_3, having4_4 =>
  if 8 ≤ y2_2 then
    some (y2_2, support4_3, having4_4)
  else
    if ((i1 >>> (y2_2 &&& 31)) &&& 1) = 0 then
      nm (α := Int32) (y2_2 + 1) fun x2_10 =>
      f_X4_countSet_L2 i1 n x2_10 support4_3 having4_4
    else
      gA 8 having4_4 y2_2 fun v_12 =>
      sI 8 having4_4 y2_2 (v_12 + 1) fun having4_14 =>
      Option.bind (f_X4_countPairs y2_2 i1 support4_3) fun support4_15 =>
      nm (α := Int32) (y2_2 + 1) fun x2_17 =>
      f_X4_countSet_L2 i1 n x2_17 support4_15 having4_14
def f_X4_countSet (i1 : Int32) (support4 : Nat → Int32) (having4 : Nat → Int32) : Option ((Nat → Int32) × (Nat → Int32)) :=
  nm (α := Int32) (0) fun x2_1 =>
  Option.bind (f_X4_countSet_L2 i1 FU x2_1 support4 having4) fun (z2_18, support4_19, having4_20) =>
  some (support4_19, having4_20)
set_option maxHeartbeats 4000000 in
set_option maxRecDepth 100000 in
theorem c_X4_countSet (l : Launch) (D : va_G) (cI cJ : ClassId) (h4 support4a having4a keys4a : Nat) (support4 : Nat → Int32) (having4 : Nat → Int32) (keys4 : Nat → Int32) (ruleCount4 : Int32) (i1 : Int32) (support4z : Nat → Int32) (having4z : Nat → Int32) (h : f_X4_countSet i1 support4 having4 = some (support4z, having4z)) : CV l D cI cJ yX4_countSet wsX4_countSet 1 23 [.ref h4, .int i1] (w4 cI cJ h4 support4a having4a keys4a support4 having4 keys4 ruleCount4) (w4 cI cJ h4 support4a having4a keys4a support4z having4z keys4 ruleCount4) := by
  refine entV (cc := cX4_countSet) (maxL := 3) (by decide) rfl (Nat.le_of_ble_eq_true rfl) ?_
  intro p e s m args below meth c ls A Q X hret
  obtain ⟨hx, hb, hml, hts, hown, hK, hA, hP, hD, hS, hl, hnm⟩ := X
  have hown : s.vm.findClass RX4 = some m.cls := hown
  have hl : lv_has ls 3 [(0, .ref h4), (1, .int i1)] := hl
  have hw1 : (Cond.fieldLink RX4 15 "CountLearners$WordRules" "having" "[I").before args s = true := hts _ (by decide +kernel)
  have hinX4 : ∀ w ∈ wsX40, w ∈ wsX4_countSet := by decide +kernel
  unfold f_X4_countSet at h
  refine lv_iconst (v := 0) hx hb dX4_countSet_0 (by decide) ?_
  refine lv_topi (fun x2_1 ex2_1 => ?_)
  have h := nm_s h x2_1 ex2_1
  refine lv_istore_n (lv' := [(2, .int x2_1), (0, .ref h4), (1, .int i1)]) hx hb dX4_countSet_1 rfl hl (by decide) rfl (fun ls hl => ?_)
  have L2 : ∀ (n : Nat) (y2_2 : Int32) (support4_3 : Nat → Int32) (having4_4 : Nat → Int32) (z2_5 : Int32) (support4_6 : Nat → Int32) (having4_7 : Nat → Int32), f_X4_countSet_L2 i1 n y2_2 support4_3 having4_4 = some (z2_5, support4_6, having4_7) → ∀ (H : Heap) (locs : List Loc) (ls : Array Slot), va_P D vwK (w4 cI cJ h4 support4a having4a keys4a support4_3 having4_4 keys4 ruleCount4) H → va_D A (w4 cI cJ h4 support4a having4a keys4a support4_3 having4_4 keys4 ruleCount4) → va_S A s.heap H locs → lv_has ls 3 [(2, .int y2_2), (0, .ref h4), (1, .int i1)] → (∀ (H : Heap) (locs : List Loc) (ls : Array Slot), va_P D vwK (w4 cI cJ h4 support4a having4a keys4a support4_6 having4_7 keys4 ruleCount4) H → va_D A (w4 cI cJ h4 support4a having4a keys4a support4_6 having4_7 keys4 ruleCount4) → va_S A s.heap H locs → lv_has ls 3 [] → W p l e (rmOf 1 23) s m args below meth c H locs 0 0 Q (F0 m 38 ls [])) → W p l e (rmOf 1 23) s m args below meth c H locs 0 0 Q (F0 m 2 ls []) := by
    intro n
    induction n with
    | zero => intro y2_2 support4_3 having4_4 z2_5 support4_6 having4_7 h; rw [f_X4_countSet_L2.eq_1] at h; cases h
    | succ n ih =>
      intro y2_2 support4_3 having4_4 z2_5 support4_6 having4_7 h H locs ls hP hD hS hl K
      rw [f_X4_countSet_L2.eq_2] at h
      refine lv_iload_n hx hb dX4_countSet_2 rfl (lv_at hl 0 rfl) ?_
      refine lv_bipush (v := 8) hx hb dX4_countSet_3 (by decide) ?_
      refine lv_icmp_ge (tgt := 38) hx hb dX4_countSet_5 (by decide) (fun c_8 => ?_) (fun c_8 => ?_)
      · have h := it_p c_8 h
        cases h
        exact K _ _ _ hP hD hS (lv_sub hl [] rfl)
      · have h := it_n c_8 h
        refine lv_iload_n hx hb dX4_countSet_8 rfl (lv_at hl 2 rfl) ?_
        refine lv_iload_n hx hb dX4_countSet_9 rfl (lv_at hl 0 rfl) ?_
        refine lv_ishr hx hb dX4_countSet_10 ?_
        refine lv_iconst (v := 1) hx hb dX4_countSet_11 (by decide) ?_
        refine lv_iand hx hb dX4_countSet_12 ?_
        refine lv_if_eq (tgt := 32) hx hb dX4_countSet_13 (by decide) (fun c_9 => ?_) (fun c_9 => ?_)
        · have h := it_p c_9 h
          obtain ⟨x2_10, ex2_10⟩ : ∃ z : Int32, z = y2_2 + 1 := ⟨_, rfl⟩
          have h := nm_s h x2_10 ex2_10
          refine lv_iinc (v := x2_10) (lv' := [(2, .int x2_10), (0, .ref h4), (1, .int i1)]) hx hb dX4_countSet_32 hl (k := 0) rfl (by rw [ex2_10]; rfl) (by decide) rfl (fun ls hl => ?_)
          refine lv_goto (tgt := 2) hx hb dX4_countSet_35 (by decide) ?_
          exact ih _ _ _ _ _ _ h _ _ _ hP hD hS (lv_sub hl [0, 1, 2] rfl) K
        · have h := it_n c_9 h
          refine lv_aload_n hx hb dX4_countSet_16 rfl (lv_at hl 1 rfl) ?_
          refine va_get (D := D) (ci := 3) (v := .ref having4a) (C := RX4) (T := TX4) (N := 4) hx hb hts hinX4 hown hK.1 hP 0 rfl rfl 1 (by decide) hw1 (fun _ h9 => h9) rfl dX4_countSet_17 ?_
          refine lv_iload_n hx hb dX4_countSet_20 rfl (lv_at hl 0 rfl) ?_
          refine lv_dup2_11 hx hb dX4_countSet_21 rfl rfl ?_
          obtain ⟨hi_11, h⟩ := gA_s h
          refine va_iald hx hb hK.1 hP 2 0 rfl rfl hi_11 dX4_countSet_22 ?_
          refine lv_topi (fun v_12 ev_12 => ?_)
          have h := h v_12 ev_12
          refine lv_iconst (v := 1) hx hb dX4_countSet_23 (by decide) ?_
          refine lv_iadd hx hb dX4_countSet_24 ?_
          obtain ⟨hi_13, h⟩ := sI_s h
          refine va_iast hx hb hK.1 hP hD hS 2 0 rfl rfl hi_13 dX4_countSet_25 (fun H locs hP hD hS => ?_)
          obtain ⟨having4_14, ehaving4_14⟩ : ∃ z, z = upd having4_4 (Int32.toNatClampNeg y2_2) (v_12 + 1) := ⟨_, rfl⟩
          have h := h having4_14 ehaving4_14
          rw [← ehaving4_14] at hP hD
          have hP : va_P D vwK (w4 cI cJ h4 support4a having4a keys4a support4_3 having4_14 keys4 ruleCount4) H := hP
          have hD : va_D A (w4 cI cJ h4 support4a having4a keys4a support4_3 having4_14 keys4 ruleCount4) := hD
          refine lv_aload_n hx hb dX4_countSet_26 rfl (lv_at hl 1 rfl) ?_
          refine lv_iload_n hx hb dX4_countSet_27 rfl (lv_at hl 0 rfl) ?_
          refine lv_iload_n hx hb dX4_countSet_28 rfl (lv_at hl 2 rfl) ?_
          obtain ⟨support4_15, hc_16, h⟩ := bd_s h
          refine callTv (As := [.int y2_2, .int i1]) (rest := []) ⟨hx, hb, hml, hown, hts⟩ (c_X4_countPairs l D cI cJ h4 support4a having4a keys4a support4_3 having4_14 keys4 ruleCount4 y2_2 i1 support4_15 hc_16) (cwV 2 hts gX4_countSet_X4_countPairs rfl rfl rfl (by decide +kernel) ⟨Nat.le_of_ble_eq_true rfl, Nat.le_of_ble_eq_true rfl⟩) hK hP hD hS hA 0 3 rfl rfl rfl rfl hl.1 rfl (Nat.le_of_ble_eq_true rfl) dX4_countSet_29 ⟨Nat.zero_le _, Nat.zero_le _⟩ (fun H locs hP hD hS => ?_)
          obtain ⟨x2_17, ex2_17⟩ : ∃ z : Int32, z = y2_2 + 1 := ⟨_, rfl⟩
          have h := nm_s h x2_17 ex2_17
          refine lv_iinc (v := x2_17) (lv' := [(2, .int x2_17), (0, .ref h4), (1, .int i1)]) hx hb dX4_countSet_32 hl (k := 0) rfl (by rw [ex2_17]; rfl) (by decide) rfl (fun ls hl => ?_)
          refine lv_goto (tgt := 2) hx hb dX4_countSet_35 (by decide) ?_
          exact ih _ _ _ _ _ _ h _ _ _ hP hD hS (lv_sub hl [0, 1, 2] rfl) K
  obtain ⟨⟨z2_18, support4_19, having4_20⟩, hl_21, h⟩ := bd_s h
  refine L2 FU x2_1 support4 having4 _ _ _ hl_21 _ _ _ hP hD hS (lv_sub hl [0, 1, 2] rfl) (fun H locs ls hP hD hS hl => ?_)
  cases h
  exact hret _ _ _ _ hP hD hS dX4_countSet_38
def f_X4_keyOf (i1 : Int32) (support4 : Nat → Int32) (having4 : Nat → Int32) : Option (Int32) :=
  gA 64 support4 i1 fun v_2 =>
  nm (α := Int32) ((64 - v_2)) fun x2_3 =>
  dz 8 <|
  gA 8 having4 (i1 / 8) fun v_6 =>
  some ((((x2_3 * 64) + v_6) * 64) + i1)
set_option maxHeartbeats 4000000 in
set_option maxRecDepth 100000 in
theorem c_X4_keyOf (l : Launch) (D : va_G) (cI cJ : ClassId) (h4 support4a having4a keys4a : Nat) (support4 : Nat → Int32) (having4 : Nat → Int32) (keys4 : Nat → Int32) (ruleCount4 : Int32) (i1 : Int32) (ret9 : Int32) (h : f_X4_keyOf i1 support4 having4 = some ret9) : CI l D cI cJ yX4_keyOf wsX4_keyOf 0 0 [.ref h4, .int i1] (w4 cI cJ h4 support4a having4a keys4a support4 having4 keys4 ruleCount4) (w4 cI cJ h4 support4a having4a keys4a support4 having4 keys4 ruleCount4) ret9 := by
  refine entI (cc := cX4_keyOf) (maxL := 3) (by decide) rfl (Nat.le_of_ble_eq_true rfl) ?_
  intro p e s m args below meth c ls A Q X hret
  obtain ⟨hx, hb, hml, hts, hown, hK, hA, hP, hD, hS, hl, hnm⟩ := X
  have hown : s.vm.findClass RX4 = some m.cls := hown
  have hl : lv_has ls 3 [(0, .ref h4), (1, .int i1)] := hl
  have hw1 : (Cond.fieldLink RX4 11 "CountLearners$WordRules" "support" "[I").before args s = true := hts _ (by decide +kernel)
  have hinX4 : ∀ w ∈ wsX40, w ∈ wsX4_keyOf := by decide +kernel
  have hw3 : (Cond.fieldLink RX4 15 "CountLearners$WordRules" "having" "[I").before args s = true := hts _ (by decide +kernel)
  unfold f_X4_keyOf at h
  refine lv_bipush (v := 64) hx hb dX4_keyOf_0 (by decide) ?_
  refine lv_aload_n hx hb dX4_keyOf_2 rfl (lv_at hl 0 rfl) ?_
  refine va_get (D := D) (ci := 3) (v := .ref support4a) (C := RX4) (T := TX4) (N := 4) hx hb hts hinX4 hown hK.1 hP 0 rfl rfl 0 (by decide) hw1 (fun _ h9 => h9) rfl dX4_keyOf_3 ?_
  refine lv_iload_n hx hb dX4_keyOf_6 rfl (lv_at hl 1 rfl) ?_
  obtain ⟨hi_1, h⟩ := gA_s h
  refine va_iald hx hb hK.1 hP 1 0 rfl rfl hi_1 dX4_keyOf_7 ?_
  refine lv_topi (fun v_2 ev_2 => ?_)
  have h := h v_2 ev_2
  refine lv_isub hx hb dX4_keyOf_8 ?_
  refine lv_topi (fun x2_3 ex2_3 => ?_)
  have h := nm_s h x2_3 ex2_3
  refine lv_istore_n (lv' := [(2, .int x2_3), (0, .ref h4), (1, .int i1)]) hx hb dX4_keyOf_9 rfl hl (by decide) rfl (fun ls hl => ?_)
  refine lv_iload_n hx hb dX4_keyOf_10 rfl (lv_at hl 0 rfl) ?_
  refine lv_bipush (v := 64) hx hb dX4_keyOf_11 (by decide) ?_
  refine lv_imul hx hb dX4_keyOf_13 ?_
  refine lv_aload_n hx hb dX4_keyOf_14 rfl (lv_at hl 1 rfl) ?_
  refine va_get (D := D) (ci := 3) (v := .ref having4a) (C := RX4) (T := TX4) (N := 4) hx hb hts hinX4 hown hK.1 hP 0 rfl rfl 1 (by decide) hw3 (fun _ h9 => h9) rfl dX4_keyOf_15 ?_
  refine lv_iload_n hx hb dX4_keyOf_18 rfl (lv_at hl 2 rfl) ?_
  refine lv_bipush (v := 8) hx hb dX4_keyOf_19 (by decide) ?_
  obtain ⟨hz_4, h⟩ := dz_s h
  refine lv_idiv hx hb dX4_keyOf_21 hz_4 ?_
  obtain ⟨hi_5, h⟩ := gA_s h
  refine va_iald hx hb hK.1 hP 2 0 rfl rfl hi_5 dX4_keyOf_22 ?_
  refine lv_topi (fun v_6 ev_6 => ?_)
  have h := h v_6 ev_6
  refine lv_iadd hx hb dX4_keyOf_23 ?_
  refine lv_bipush (v := 64) hx hb dX4_keyOf_24 (by decide) ?_
  refine lv_imul hx hb dX4_keyOf_26 ?_
  refine lv_iload_n hx hb dX4_keyOf_27 rfl (lv_at hl 2 rfl) ?_
  refine lv_iadd hx hb dX4_keyOf_28 ?_
  cases h
  exact hret _ _ _ _ hP hD hS dX4_keyOf_29
def f_X4_insert_L15 (i1 : Int32) : Nat → Int32 → (Nat → Int32) → Option (Int32 × (Nat → Int32))
  | 0, _, _ => none
  | n + 1, y2_3, keys4_4 =>
  if y2_3 ≤ 0 then
    some (y2_3, keys4_4)
  else
    gA 56 keys4_4 (y2_3 - 1) fun v_9 =>
    if v_9 ≤ i1 then
      some (y2_3, keys4_4)
    else
      gA 56 keys4_4 (y2_3 - 1) fun v_12 =>
      sI 56 keys4_4 y2_3 v_12 fun keys4_14 =>
      nm (α := Int32) (y2_3 + (-1)) fun x2_15 =>
      f_X4_insert_L15 i1 n x2_15 keys4_14
def f_X4_insert (i1 : Int32) (keys4 : Nat → Int32) (ruleCount4 : Int32) : Option ((Nat → Int32) × Int32) :=
  if ruleCount4 < 56 then
    nm (α := Int32) (ruleCount4) fun x2_2 =>
    Option.bind (f_X4_insert_L15 i1 FU x2_2 keys4) fun (z2_16, keys4_17) =>
    sI 56 keys4_17 z2_16 i1 fun keys4_20 =>
    nm (α := Int32) ((ruleCount4 + 1)) fun ruleCount4_21 =>
    some (keys4_20, ruleCount4_21)
  else
    some (keys4, ruleCount4)
set_option maxHeartbeats 4000000 in
set_option maxRecDepth 100000 in
theorem c_X4_insert (l : Launch) (D : va_G) (cI cJ : ClassId) (h4 support4a having4a keys4a : Nat) (support4 : Nat → Int32) (having4 : Nat → Int32) (keys4 : Nat → Int32) (ruleCount4 : Int32) (i1 : Int32) (keys4z : Nat → Int32) (ruleCount4z : Int32) (h : f_X4_insert i1 keys4 ruleCount4 = some (keys4z, ruleCount4z)) : CV l D cI cJ yX4_insert wsX4_insert 0 0 [.ref h4, .int i1] (w4 cI cJ h4 support4a having4a keys4a support4 having4 keys4 ruleCount4) (w4 cI cJ h4 support4a having4a keys4a support4 having4 keys4z ruleCount4z) := by
  refine entV (cc := cX4_insert) (maxL := 3) (by decide) rfl (Nat.le_of_ble_eq_true rfl) ?_
  intro p e s m args below meth c ls A Q X hret
  obtain ⟨hx, hb, hml, hts, hown, hK, hA, hP, hD, hS, hl, hnm⟩ := X
  have hown : s.vm.findClass RX4 = some m.cls := hown
  have hl : lv_has ls 3 [(0, .ref h4), (1, .int i1)] := hl
  have hw1 : (Cond.fieldLink RX4 21 "CountLearners$WordRules" "ruleCount" "I").before args s = true := hts _ (by decide +kernel)
  have hinX4 : ∀ w ∈ wsX40, w ∈ wsX4_insert := by decide +kernel
  have hw3 : (Cond.fieldLink RX4 18 "CountLearners$WordRules" "keys" "[I").before args s = true := hts _ (by decide +kernel)
  unfold f_X4_insert at h
  refine lv_aload_n hx hb dX4_insert_0 rfl (lv_at hl 0 rfl) ?_
  refine va_get (D := D) (ci := 3) (v := .int ruleCount4) (C := RX4) (T := TX4) (N := 4) hx hb hts hinX4 hown hK.1 hP 0 rfl rfl 3 (by decide) hw1 (fun _ h9 => h9) rfl dX4_insert_1 ?_
  refine lv_bipush (v := 56) hx hb dX4_insert_4 (by decide) ?_
  refine lv_icmp_lt (tgt := 10) hx hb dX4_insert_6 (by decide) (fun c_1 => ?_) (fun c_1 => ?_)
  · have h := it_p c_1 h
    refine lv_aload_n hx hb dX4_insert_10 rfl (lv_at hl 0 rfl) ?_
    refine va_get (D := D) (ci := 3) (v := .int ruleCount4) (C := RX4) (T := TX4) (N := 4) hx hb hts hinX4 hown hK.1 hP 0 rfl rfl 3 (by decide) hw1 (fun _ h9 => h9) rfl dX4_insert_11 ?_
    refine lv_topi (fun x2_2 ex2_2 => ?_)
    have h := nm_s h x2_2 ex2_2
    refine lv_istore_n (lv' := [(2, .int x2_2), (0, .ref h4), (1, .int i1)]) hx hb dX4_insert_14 rfl hl (by decide) rfl (fun ls hl => ?_)
    have L15 : ∀ (n : Nat) (y2_3 : Int32) (keys4_4 : Nat → Int32) (z2_5 : Int32) (keys4_6 : Nat → Int32), f_X4_insert_L15 i1 n y2_3 keys4_4 = some (z2_5, keys4_6) → ∀ (H : Heap) (locs : List Loc) (ls : Array Slot), va_P D vwK (w4 cI cJ h4 support4a having4a keys4a support4 having4 keys4_4 ruleCount4) H → va_D A (w4 cI cJ h4 support4a having4a keys4a support4 having4 keys4_4 ruleCount4) → va_S A s.heap H locs → lv_has ls 3 [(2, .int y2_3), (0, .ref h4), (1, .int i1)] → (∀ (H : Heap) (locs : List Loc) (ls : Array Slot), va_P D vwK (w4 cI cJ h4 support4a having4a keys4a support4 having4 keys4_6 ruleCount4) H → va_D A (w4 cI cJ h4 support4a having4a keys4a support4 having4 keys4_6 ruleCount4) → va_S A s.heap H locs → lv_has ls 3 [(2, .int z2_5), (0, .ref h4), (1, .int i1)] → W p l e (rmOf 0 0) s m args below meth c H locs 0 0 Q (F0 m 51 ls [])) → W p l e (rmOf 0 0) s m args below meth c H locs 0 0 Q (F0 m 15 ls []) := by
      intro n
      induction n with
      | zero => intro y2_3 keys4_4 z2_5 keys4_6 h; rw [f_X4_insert_L15.eq_1] at h; cases h
      | succ n ih =>
        intro y2_3 keys4_4 z2_5 keys4_6 h H locs ls hP hD hS hl K
        rw [f_X4_insert_L15.eq_2] at h
        refine lv_iload_n hx hb dX4_insert_15 rfl (lv_at hl 0 rfl) ?_
        refine lv_if_le (tgt := 51) hx hb dX4_insert_16 (by decide) (fun c_7 => ?_) (fun c_7 => ?_)
        · have h := it_p c_7 h
          cases h
          exact K _ _ _ hP hD hS (lv_sub hl [0, 1, 2] rfl)
        · have h := it_n c_7 h
          refine lv_aload_n hx hb dX4_insert_19 rfl (lv_at hl 1 rfl) ?_
          refine va_get (D := D) (ci := 3) (v := .ref keys4a) (C := RX4) (T := TX4) (N := 4) hx hb hts hinX4 hown hK.1 hP 0 rfl rfl 2 (by decide) hw3 (fun _ h9 => h9) rfl dX4_insert_20 ?_
          refine lv_iload_n hx hb dX4_insert_23 rfl (lv_at hl 0 rfl) ?_
          refine lv_iconst (v := 1) hx hb dX4_insert_24 (by decide) ?_
          refine lv_isub hx hb dX4_insert_25 ?_
          obtain ⟨hi_8, h⟩ := gA_s h
          refine va_iald hx hb hK.1 hP 3 0 rfl rfl hi_8 dX4_insert_26 ?_
          refine lv_topi (fun v_9 ev_9 => ?_)
          have h := h v_9 ev_9
          refine lv_iload_n hx hb dX4_insert_27 rfl (lv_at hl 2 rfl) ?_
          refine lv_icmp_le (tgt := 51) hx hb dX4_insert_28 (by decide) (fun c_10 => ?_) (fun c_10 => ?_)
          · have h := it_p c_10 h
            cases h
            exact K _ _ _ hP hD hS (lv_sub hl [0, 1, 2] rfl)
          · have h := it_n c_10 h
            refine lv_aload_n hx hb dX4_insert_31 rfl (lv_at hl 1 rfl) ?_
            refine va_get (D := D) (ci := 3) (v := .ref keys4a) (C := RX4) (T := TX4) (N := 4) hx hb hts hinX4 hown hK.1 hP 0 rfl rfl 2 (by decide) hw3 (fun _ h9 => h9) rfl dX4_insert_32 ?_
            refine lv_iload_n hx hb dX4_insert_35 rfl (lv_at hl 0 rfl) ?_
            refine lv_aload_n hx hb dX4_insert_36 rfl (lv_at hl 1 rfl) ?_
            refine va_get (D := D) (ci := 3) (v := .ref keys4a) (C := RX4) (T := TX4) (N := 4) hx hb hts hinX4 hown hK.1 hP 0 rfl rfl 2 (by decide) hw3 (fun _ h9 => h9) rfl dX4_insert_37 ?_
            refine lv_iload_n hx hb dX4_insert_40 rfl (lv_at hl 0 rfl) ?_
            refine lv_iconst (v := 1) hx hb dX4_insert_41 (by decide) ?_
            refine lv_isub hx hb dX4_insert_42 ?_
            obtain ⟨hi_11, h⟩ := gA_s h
            refine va_iald hx hb hK.1 hP 3 0 rfl rfl hi_11 dX4_insert_43 ?_
            refine lv_topi (fun v_12 ev_12 => ?_)
            have h := h v_12 ev_12
            obtain ⟨hi_13, h⟩ := sI_s h
            refine va_iast hx hb hK.1 hP hD hS 3 0 rfl rfl hi_13 dX4_insert_44 (fun H locs hP hD hS => ?_)
            obtain ⟨keys4_14, ekeys4_14⟩ : ∃ z, z = upd keys4_4 (Int32.toNatClampNeg y2_3) v_12 := ⟨_, rfl⟩
            have h := h keys4_14 ekeys4_14
            rw [← ekeys4_14] at hP hD
            have hP : va_P D vwK (w4 cI cJ h4 support4a having4a keys4a support4 having4 keys4_14 ruleCount4) H := hP
            have hD : va_D A (w4 cI cJ h4 support4a having4a keys4a support4 having4 keys4_14 ruleCount4) := hD
            obtain ⟨x2_15, ex2_15⟩ : ∃ z : Int32, z = y2_3 + (-1) := ⟨_, rfl⟩
            have h := nm_s h x2_15 ex2_15
            refine lv_iinc (v := x2_15) (lv' := [(2, .int x2_15), (0, .ref h4), (1, .int i1)]) hx hb dX4_insert_45 hl (k := 0) rfl (by rw [ex2_15]; rfl) (by decide) rfl (fun ls hl => ?_)
            refine lv_goto (tgt := 15) hx hb dX4_insert_48 (by decide) ?_
            exact ih _ _ _ _ h _ _ _ hP hD hS (lv_sub hl [0, 1, 2] rfl) K
    obtain ⟨⟨z2_16, keys4_17⟩, hl_18, h⟩ := bd_s h
    refine L15 FU x2_2 keys4 _ _ hl_18 _ _ _ hP hD hS (lv_sub hl [0, 1, 2] rfl) (fun H locs ls hP hD hS hl => ?_)
    refine lv_aload_n hx hb dX4_insert_51 rfl (lv_at hl 1 rfl) ?_
    refine va_get (D := D) (ci := 3) (v := .ref keys4a) (C := RX4) (T := TX4) (N := 4) hx hb hts hinX4 hown hK.1 hP 0 rfl rfl 2 (by decide) hw3 (fun _ h9 => h9) rfl dX4_insert_52 ?_
    refine lv_iload_n hx hb dX4_insert_55 rfl (lv_at hl 0 rfl) ?_
    refine lv_iload_n hx hb dX4_insert_56 rfl (lv_at hl 2 rfl) ?_
    obtain ⟨hi_19, h⟩ := sI_s h
    refine va_iast hx hb hK.1 hP hD hS 3 0 rfl rfl hi_19 dX4_insert_57 (fun H locs hP hD hS => ?_)
    obtain ⟨keys4_20, ekeys4_20⟩ : ∃ z, z = upd keys4_17 (Int32.toNatClampNeg z2_16) i1 := ⟨_, rfl⟩
    have h := h keys4_20 ekeys4_20
    rw [← ekeys4_20] at hP hD
    have hP : va_P D vwK (w4 cI cJ h4 support4a having4a keys4a support4 having4 keys4_20 ruleCount4) H := hP
    have hD : va_D A (w4 cI cJ h4 support4a having4a keys4a support4 having4 keys4_20 ruleCount4) := hD
    refine lv_aload_n hx hb dX4_insert_58 rfl (lv_at hl 1 rfl) ?_
    refine lv_dup hx hb dX4_insert_59 rfl ?_
    refine va_get (D := D) (ci := 3) (v := .int ruleCount4) (C := RX4) (T := TX4) (N := 4) hx hb hts hinX4 hown hK.1 hP 0 rfl rfl 3 (by decide) hw1 (fun _ h9 => h9) rfl dX4_insert_60 ?_
    refine lv_iconst (v := 1) hx hb dX4_insert_63 (by decide) ?_
    refine lv_iadd hx hb dX4_insert_64 ?_
    refine lv_topi (fun ruleCount4_21 eruleCount4_21 => ?_)
    have h := nm_s h ruleCount4_21 eruleCount4_21
    refine va_put (D := D) (ci := 3) (v := .int ruleCount4_21) (ty := .int) (C := RX4) (T := TX4) (N := 4) hx hb hts hinX4 tyX4 tyX4_ok nmX4 hown hK.1 hP hD hS 0 rfl rfl 3 (by decide) hw1 (fun _ h9 => h9) rfl (by decide +kernel) rfl rfl (Nat.le_of_ble_eq_true rfl) dX4_insert_65 (fun H locs hP hD hS => ?_)
    have hP : va_P D vwK (w4 cI cJ h4 support4a having4a keys4a support4 having4 keys4_20 ruleCount4_21) H := hP
    have hD : va_D A (w4 cI cJ h4 support4a having4a keys4a support4 having4 keys4_20 ruleCount4_21) := hD
    cases h
    exact hret _ _ _ _ hP hD hS dX4_insert_68
  · have h := it_n c_1 h
    cases h
    exact hret _ _ _ _ hP hD hS dX4_insert_9
def f_X4_gather_L18 (lengths2 : Nat → Int32) (words2 : Nat → Int32) (rowCount2 : Int32) : Nat → Int32 → (Nat → Int32) → (Nat → Int32) → Option (Int32 × (Nat → Int32) × (Nat → Int32))
  | 0, _, _, _ => none
  | n + 1, y2_6, support4_7, having4_8 =>
  Option.bind (f_X2_size rowCount2) fun r_12 =>
  if r_12 ≤ y2_6 then
    some (y2_6, support4_7, having4_8)
  else
    Option.bind (f_X2_wordSet y2_6 lengths2 words2) fun r_15 =>
    Option.bind (f_X4_countSet r_15 support4_7 having4_8) fun (support4_17, having4_18) =>
    nm (α := Int32) (y2_6 + 1) fun x2_20 =>
    f_X4_gather_L18 lengths2 words2 rowCount2 n x2_20 support4_17 having4_18
def f_X4_gather_L48 (support4_22 : Nat → Int32) (having4_23 : Nat → Int32) : Nat → Int32 → (Nat → Int32) → Int32 → Option (Int32 × (Nat → Int32) × Int32)
  | 0, _, _, _ => none
  | n + 1, y2_27, keys4_28, ruleCount4_29 =>
  if 64 ≤ y2_27 then
    some (y2_27, keys4_28, ruleCount4_29)
  else
    gA 64 support4_22 y2_27 fun v_35 =>
    if v_35 ≤ 0 then
      nm (α := Int32) (y2_27 + 1) fun x2_37 =>
      f_X4_gather_L48 support4_22 having4_23 n x2_37 keys4_28 ruleCount4_29
    else
      Option.bind (f_X4_keyOf y2_27 support4_22 having4_23) fun r_38 =>
      Option.bind (f_X4_insert r_38 keys4_28 ruleCount4_29) fun (keys4_40, ruleCount4_41) =>
      nm (α := Int32) (y2_27 + 1) fun x2_43 =>
      f_X4_gather_L48 support4_22 having4_23 n x2_43 keys4_40 ruleCount4_41
def f_X4_gather (lengths2 : Nat → Int32) (words2 : Nat → Int32) (rowCount2 : Int32) (support4 : Nat → Int32) (having4 : Nat → Int32) (keys4 : Nat → Int32) (ruleCount4 : Int32) : Option ((Nat → Int32) × (Nat → Int32) × (Nat → Int32) × Int32) :=
  Option.bind (f_X5_setAll 64 support4 0) fun support4_1 =>
  Option.bind (f_X5_setAll 8 having4 0) fun having4_3 =>
  nm (α := Int32) (0) fun x2_5 =>
  Option.bind (f_X4_gather_L18 lengths2 words2 rowCount2 FU x2_5 support4_1 having4_3) fun (z2_21, support4_22, having4_23) =>
  nm (α := Int32) (0) fun ruleCount4_25 =>
  nm (α := Int32) (0) fun x2_26 =>
  Option.bind (f_X4_gather_L48 support4_22 having4_23 FU x2_26 keys4 ruleCount4_25) fun (z2_44, keys4_45, ruleCount4_46) =>
  some (support4_22, having4_23, keys4_45, ruleCount4_46)
set_option maxHeartbeats 4000000 in
set_option maxRecDepth 100000 in
theorem c_X4_gather (l : Launch) (D : va_G) (cI cJ : ClassId) (h4 support4a having4a keys4a h2 labels2a guesses2a lengths2a words2a times2a totals2a sizes2a : Nat) (support4 : Nat → Int32) (having4 : Nat → Int32) (keys4 : Nat → Int32) (ruleCount4 : Int32) (labels2 : Nat → Int32) (guesses2 : Nat → Int32) (lengths2 : Nat → Int32) (words2 : Nat → Int32) (times2 : Nat → Int32) (totals2 : Nat → Int32) (sizes2 : Nat → Int32) (rowCount2 : Int32) (addedUp2 : Int32) (addedDown2 : Int32) (support4z : Nat → Int32) (having4z : Nat → Int32) (keys4z : Nat → Int32) (ruleCount4z : Int32) (h : f_X4_gather lengths2 words2 rowCount2 support4 having4 keys4 ruleCount4 = some (support4z, having4z, keys4z, ruleCount4z)) : CV l D cI cJ yX4_gather wsX4_gather 2 45 [.ref h4, .ref h2] (w4 cI cJ h4 support4a having4a keys4a support4 having4 keys4 ruleCount4 ++ w2 cI cJ h2 labels2a guesses2a lengths2a words2a times2a totals2a sizes2a labels2 guesses2 lengths2 words2 times2 totals2 sizes2 rowCount2 addedUp2 addedDown2) (w4 cI cJ h4 support4a having4a keys4a support4z having4z keys4z ruleCount4z ++ w2 cI cJ h2 labels2a guesses2a lengths2a words2a times2a totals2a sizes2a labels2 guesses2 lengths2 words2 times2 totals2 sizes2 rowCount2 addedUp2 addedDown2) := by
  refine entV (cc := cX4_gather) (maxL := 3) (by decide) rfl (Nat.le_of_ble_eq_true rfl) ?_
  intro p e s m args below meth c ls A Q X hret
  obtain ⟨hx, hb, hml, hts, hown, hK, hA, hP, hD, hS, hl, hnm⟩ := X
  have hown : s.vm.findClass RX4 = some m.cls := hown
  have hl : lv_has ls 3 [(0, .ref h4), (1, .ref h2)] := hl
  have hw1 : (Cond.fieldLink RX4 11 "CountLearners$WordRules" "support" "[I").before args s = true := hts _ (by decide +kernel)
  have hinX4 : ∀ w ∈ wsX40, w ∈ wsX4_gather := by decide +kernel
  have hw3 : (Cond.initialized RX5).before args s = true := hts _ (by decide +kernel)
  have hw4 : (Cond.static yX5_setAll).before args s = true := hts _ (by decide +kernel)
  have hw5 : (Cond.fieldLink RX4 15 "CountLearners$WordRules" "having" "[I").before args s = true := hts _ (by decide +kernel)
  have hw6 : (Cond.fieldLink RX4 21 "CountLearners$WordRules" "ruleCount" "I").before args s = true := hts _ (by decide +kernel)
  unfold f_X4_gather at h
  refine lv_aload_n hx hb dX4_gather_0 rfl (lv_at hl 0 rfl) ?_
  refine va_get (D := D) (ci := 3) (v := .ref support4a) (C := RX4) (T := TX4) (N := 4) hx hb hts hinX4 hown hK.1 hP 0 rfl rfl 0 (by decide) hw1 (fun _ h9 => h9) rfl dX4_gather_1 ?_
  refine lv_iconst (v := 0) hx hb dX4_gather_4 (by decide) ?_
  obtain ⟨support4_1, hc_2, h⟩ := bd_s h
  refine callNv (As := [.ref support4a, .int 0]) (rest := []) (ws2 := (w4 cI cJ h4 support4a having4a keys4a support4_1 having4 keys4 ruleCount4 ++ w2 cI cJ h2 labels2a guesses2a lengths2a words2a times2a totals2a sizes2a labels2 guesses2 lengths2 words2 times2 totals2 sizes2 rowCount2 addedUp2 addedDown2)) ⟨hx, hb, hml, hown, hts⟩ (c_X5_setAll l D cI cJ support4a 64 support4 0 support4_1 hc_2) ⟨va_cnB 2 hts gX4_gather_X5_setAll_n31 rfl rfl rfl hK.2.2.2.2 hw3 (by decide +kernel) ⟨Nat.le_of_ble_eq_true rfl, Nat.le_of_ble_eq_true rfl⟩, hw4, trivial⟩ hK hP hD hS hA [1] [0, 2, 3, 4, 5, 6, 7, 8, 9, 10, 11] [0, 11, 1, 2, 3, 4, 5, 6, 7, 8, 9, 10] ⟨[(h4, .inr (3, [.ref support4a, .ref having4a, .ref keys4a, .int ruleCount4])), (having4a, .inl (cI, 8, .inl having4)), (keys4a, .inl (cI, 56, .inl keys4)), (h2, .inr (1, [.ref labels2a, .ref guesses2a, .ref lengths2a, .ref words2a, .ref times2a, .ref totals2a, .ref sizes2a, .int rowCount2, .int addedUp2, .int addedDown2])), (labels2a, .inl (cI, 40, .inl labels2)), (guesses2a, .inl (cI, 40, .inl guesses2)), (lengths2a, .inl (cI, 40, .inl lengths2)), (words2a, .inl (cI, 240, .inl words2)), (times2a, .inl (cI, 32, .inl times2)), (totals2a, .inl (cI, 4, .inl totals2)), (sizes2a, .inl (cI, 4, .inl sizes2))], rfl, rfl, rfl, rfl, by decide, rfl, rfl⟩ rfl hl.1 rfl (Nat.le_of_ble_eq_true rfl) dX4_gather_5 ⟨Nat.zero_le _, Nat.zero_le _⟩ (fun H locs hP hD hS => ?_)
  refine lv_aload_n hx hb dX4_gather_8 rfl (lv_at hl 0 rfl) ?_
  refine va_get (D := D) (ci := 3) (v := .ref having4a) (C := RX4) (T := TX4) (N := 4) hx hb hts hinX4 hown hK.1 hP 0 rfl rfl 1 (by decide) hw5 (fun _ h9 => h9) rfl dX4_gather_9 ?_
  refine lv_iconst (v := 0) hx hb dX4_gather_12 (by decide) ?_
  obtain ⟨having4_3, hc_4, h⟩ := bd_s h
  refine callNv (As := [.ref having4a, .int 0]) (rest := []) (ws2 := (w4 cI cJ h4 support4a having4a keys4a support4_1 having4_3 keys4 ruleCount4 ++ w2 cI cJ h2 labels2a guesses2a lengths2a words2a times2a totals2a sizes2a labels2 guesses2 lengths2 words2 times2 totals2 sizes2 rowCount2 addedUp2 addedDown2)) ⟨hx, hb, hml, hown, hts⟩ (c_X5_setAll l D cI cJ having4a 8 having4 0 having4_3 hc_4) ⟨va_cnB 2 hts gX4_gather_X5_setAll_n31 rfl rfl rfl hK.2.2.2.2 hw3 (by decide +kernel) ⟨Nat.le_of_ble_eq_true rfl, Nat.le_of_ble_eq_true rfl⟩, hw4, trivial⟩ hK hP hD hS hA [2] [0, 1, 3, 4, 5, 6, 7, 8, 9, 10, 11] [0, 1, 11, 2, 3, 4, 5, 6, 7, 8, 9, 10] ⟨[(h4, .inr (3, [.ref support4a, .ref having4a, .ref keys4a, .int ruleCount4])), (support4a, .inl (cI, 64, .inl support4_1)), (keys4a, .inl (cI, 56, .inl keys4)), (h2, .inr (1, [.ref labels2a, .ref guesses2a, .ref lengths2a, .ref words2a, .ref times2a, .ref totals2a, .ref sizes2a, .int rowCount2, .int addedUp2, .int addedDown2])), (labels2a, .inl (cI, 40, .inl labels2)), (guesses2a, .inl (cI, 40, .inl guesses2)), (lengths2a, .inl (cI, 40, .inl lengths2)), (words2a, .inl (cI, 240, .inl words2)), (times2a, .inl (cI, 32, .inl times2)), (totals2a, .inl (cI, 4, .inl totals2)), (sizes2a, .inl (cI, 4, .inl sizes2))], rfl, rfl, rfl, rfl, by decide, rfl, rfl⟩ rfl hl.1 rfl (Nat.le_of_ble_eq_true rfl) dX4_gather_13 ⟨Nat.zero_le _, Nat.zero_le _⟩ (fun H locs hP hD hS => ?_)
  refine lv_iconst (v := 0) hx hb dX4_gather_16 (by decide) ?_
  refine lv_topi (fun x2_5 ex2_5 => ?_)
  have h := nm_s h x2_5 ex2_5
  refine lv_istore_n (lv' := [(2, .int x2_5), (0, .ref h4), (1, .ref h2)]) hx hb dX4_gather_17 rfl hl (by decide) rfl (fun ls hl => ?_)
  have L18 : ∀ (n : Nat) (y2_6 : Int32) (support4_7 : Nat → Int32) (having4_8 : Nat → Int32) (z2_9 : Int32) (support4_10 : Nat → Int32) (having4_11 : Nat → Int32), f_X4_gather_L18 lengths2 words2 rowCount2 n y2_6 support4_7 having4_8 = some (z2_9, support4_10, having4_11) → ∀ (H : Heap) (locs : List Loc) (ls : Array Slot), va_P D vwK (w4 cI cJ h4 support4a having4a keys4a support4_7 having4_8 keys4 ruleCount4 ++ w2 cI cJ h2 labels2a guesses2a lengths2a words2a times2a totals2a sizes2a labels2 guesses2 lengths2 words2 times2 totals2 sizes2 rowCount2 addedUp2 addedDown2) H → va_D A (w4 cI cJ h4 support4a having4a keys4a support4_7 having4_8 keys4 ruleCount4 ++ w2 cI cJ h2 labels2a guesses2a lengths2a words2a times2a totals2a sizes2a labels2 guesses2 lengths2 words2 times2 totals2 sizes2 rowCount2 addedUp2 addedDown2) → va_S A s.heap H locs → lv_has ls 3 [(2, .int y2_6), (0, .ref h4), (1, .ref h2)] → (∀ (H : Heap) (locs : List Loc) (ls : Array Slot), va_P D vwK (w4 cI cJ h4 support4a having4a keys4a support4_10 having4_11 keys4 ruleCount4 ++ w2 cI cJ h2 labels2a guesses2a lengths2a words2a times2a totals2a sizes2a labels2 guesses2 lengths2 words2 times2 totals2 sizes2 rowCount2 addedUp2 addedDown2) H → va_D A (w4 cI cJ h4 support4a having4a keys4a support4_10 having4_11 keys4 ruleCount4 ++ w2 cI cJ h2 labels2a guesses2a lengths2a words2a times2a totals2a sizes2a labels2 guesses2 lengths2 words2 times2 totals2 sizes2 rowCount2 addedUp2 addedDown2) → va_S A s.heap H locs → lv_has ls 3 [(0, .ref h4)] → W p l e (rmOf 2 45) s m args below meth c H locs 0 0 Q (F0 m 41 ls [])) → W p l e (rmOf 2 45) s m args below meth c H locs 0 0 Q (F0 m 18 ls []) := by
    intro n
    induction n with
    | zero => intro y2_6 support4_7 having4_8 z2_9 support4_10 having4_11 h; rw [f_X4_gather_L18.eq_1] at h; cases h
    | succ n ih =>
      intro y2_6 support4_7 having4_8 z2_9 support4_10 having4_11 h H locs ls hP hD hS hl K
      rw [f_X4_gather_L18.eq_2] at h
      refine lv_iload_n hx hb dX4_gather_18 rfl (lv_at hl 0 rfl) ?_
      refine lv_aload_n hx hb dX4_gather_19 rfl (lv_at hl 2 rfl) ?_
      obtain ⟨r_12, hc_13, h⟩ := bd_s h
      refine callVi (As := []) (rest := [.int y2_6]) (ws2 := (w4 cI cJ h4 support4a having4a keys4a support4_7 having4_8 keys4 ruleCount4 ++ w2 cI cJ h2 labels2a guesses2a lengths2a words2a times2a totals2a sizes2a labels2 guesses2 lengths2 words2 times2 totals2 sizes2 rowCount2 addedUp2 addedDown2)) ⟨hx, hb, hml, hown, hts⟩ (c_X2_size l D cI cJ h2 labels2a guesses2a lengths2a words2a times2a totals2a sizes2a labels2 guesses2 lengths2 words2 times2 totals2 sizes2 rowCount2 addedUp2 addedDown2 r_12 hc_13) (cwV 0 hts gX4_gather_X2_size rfl rfl rfl (by decide +kernel) ⟨Nat.le_of_ble_eq_true rfl, Nat.le_of_ble_eq_true rfl⟩) hK hP hD hS hA [4, 5, 6, 7, 8, 9, 10, 11] [0, 1, 2, 3] [0, 1, 2, 3, 4, 5, 6, 7, 8, 9, 10, 11] ⟨[(h4, .inr (3, [.ref support4a, .ref having4a, .ref keys4a, .int ruleCount4])), (support4a, .inl (cI, 64, .inl support4_7)), (having4a, .inl (cI, 8, .inl having4_8)), (keys4a, .inl (cI, 56, .inl keys4))], rfl, rfl, rfl, rfl, by decide, rfl, rfl⟩ 0 1 rfl rfl rfl rfl hl.1 rfl (Nat.le_of_ble_eq_true rfl) dX4_gather_20 ⟨Nat.zero_le _, Nat.zero_le _⟩ (fun H locs hP hD hS => ?_)
      refine lv_icmp_ge (tgt := 41) hx hb dX4_gather_23 (by decide) (fun c_14 => ?_) (fun c_14 => ?_)
      · have h := it_p c_14 h
        cases h
        exact K _ _ _ hP hD hS (lv_sub hl [1] rfl)
      · have h := it_n c_14 h
        refine lv_aload_n hx hb dX4_gather_26 rfl (lv_at hl 1 rfl) ?_
        refine lv_aload_n hx hb dX4_gather_27 rfl (lv_at hl 2 rfl) ?_
        refine lv_iload_n hx hb dX4_gather_28 rfl (lv_at hl 0 rfl) ?_
        obtain ⟨r_15, hc_16, h⟩ := bd_s h
        refine callVi (As := [.int y2_6]) (rest := [.ref h4]) (ws2 := (w4 cI cJ h4 support4a having4a keys4a support4_7 having4_8 keys4 ruleCount4 ++ w2 cI cJ h2 labels2a guesses2a lengths2a words2a times2a totals2a sizes2a labels2 guesses2 lengths2 words2 times2 totals2 sizes2 rowCount2 addedUp2 addedDown2)) ⟨hx, hb, hml, hown, hts⟩ (c_X2_wordSet l D cI cJ h2 labels2a guesses2a lengths2a words2a times2a totals2a sizes2a labels2 guesses2 lengths2 words2 times2 totals2 sizes2 rowCount2 addedUp2 addedDown2 y2_6 r_15 hc_16) (cwV 1 hts gX4_gather_X2_wordSet rfl rfl rfl (by decide +kernel) ⟨Nat.le_of_ble_eq_true rfl, Nat.le_of_ble_eq_true rfl⟩) hK hP hD hS hA [4, 5, 6, 7, 8, 9, 10, 11] [0, 1, 2, 3] [0, 1, 2, 3, 4, 5, 6, 7, 8, 9, 10, 11] ⟨[(h4, .inr (3, [.ref support4a, .ref having4a, .ref keys4a, .int ruleCount4])), (support4a, .inl (cI, 64, .inl support4_7)), (having4a, .inl (cI, 8, .inl having4_8)), (keys4a, .inl (cI, 56, .inl keys4))], rfl, rfl, rfl, rfl, by decide, rfl, rfl⟩ 0 1 rfl rfl rfl rfl hl.1 rfl (Nat.le_of_ble_eq_true rfl) dX4_gather_29 ⟨Nat.zero_le _, Nat.zero_le _⟩ (fun H locs hP hD hS => ?_)
        obtain ⟨⟨support4_17, having4_18⟩, hc_19, h⟩ := bd_s h
        refine callVv (As := [.int r_15]) (rest := []) (ws2 := (w4 cI cJ h4 support4a having4a keys4a support4_17 having4_18 keys4 ruleCount4 ++ w2 cI cJ h2 labels2a guesses2a lengths2a words2a times2a totals2a sizes2a labels2 guesses2 lengths2 words2 times2 totals2 sizes2 rowCount2 addedUp2 addedDown2)) ⟨hx, hb, hml, hown, hts⟩ (c_X4_countSet l D cI cJ h4 support4a having4a keys4a support4_7 having4_8 keys4 ruleCount4 r_15 support4_17 having4_18 hc_19) (cwV 1 hts gX4_gather_X4_countSet rfl rfl rfl (by decide +kernel) ⟨Nat.le_of_ble_eq_true rfl, Nat.le_of_ble_eq_true rfl⟩) hK hP hD hS hA [0, 1, 2, 3] [4, 5, 6, 7, 8, 9, 10, 11] [8, 9, 10, 11, 0, 1, 2, 3, 4, 5, 6, 7] ⟨[(h2, .inr (1, [.ref labels2a, .ref guesses2a, .ref lengths2a, .ref words2a, .ref times2a, .ref totals2a, .ref sizes2a, .int rowCount2, .int addedUp2, .int addedDown2])), (labels2a, .inl (cI, 40, .inl labels2)), (guesses2a, .inl (cI, 40, .inl guesses2)), (lengths2a, .inl (cI, 40, .inl lengths2)), (words2a, .inl (cI, 240, .inl words2)), (times2a, .inl (cI, 32, .inl times2)), (totals2a, .inl (cI, 4, .inl totals2)), (sizes2a, .inl (cI, 4, .inl sizes2))], rfl, rfl, rfl, rfl, by decide, rfl, rfl⟩ 0 3 rfl rfl rfl rfl hl.1 rfl (Nat.le_of_ble_eq_true rfl) dX4_gather_32 ⟨Nat.zero_le _, Nat.zero_le _⟩ (fun H locs hP hD hS => ?_)
        obtain ⟨x2_20, ex2_20⟩ : ∃ z : Int32, z = y2_6 + 1 := ⟨_, rfl⟩
        have h := nm_s h x2_20 ex2_20
        refine lv_iinc (v := x2_20) (lv' := [(2, .int x2_20), (0, .ref h4), (1, .ref h2)]) hx hb dX4_gather_35 hl (k := 0) rfl (by rw [ex2_20]; rfl) (by decide) rfl (fun ls hl => ?_)
        refine lv_goto (tgt := 18) hx hb dX4_gather_38 (by decide) ?_
        exact ih _ _ _ _ _ _ h _ _ _ hP hD hS (lv_sub hl [0, 1, 2] rfl) K
  obtain ⟨⟨z2_21, support4_22, having4_23⟩, hl_24, h⟩ := bd_s h
  refine L18 FU x2_5 support4_1 having4_3 _ _ _ hl_24 _ _ _ hP hD hS (lv_sub hl [0, 1, 2] rfl) (fun H locs ls hP hD hS hl => ?_)
  refine lv_aload_n hx hb dX4_gather_41 rfl (lv_at hl 0 rfl) ?_
  refine lv_iconst (v := 0) hx hb dX4_gather_42 (by decide) ?_
  refine lv_topi (fun ruleCount4_25 eruleCount4_25 => ?_)
  have h := nm_s h ruleCount4_25 eruleCount4_25
  refine va_put (D := D) (ci := 3) (v := .int ruleCount4_25) (ty := .int) (C := RX4) (T := TX4) (N := 4) hx hb hts hinX4 tyX4 tyX4_ok nmX4 hown hK.1 hP hD hS 0 rfl rfl 3 (by decide) hw6 (fun _ h9 => h9) rfl (by decide +kernel) rfl rfl (Nat.le_of_ble_eq_true rfl) dX4_gather_43 (fun H locs hP hD hS => ?_)
  have hP : va_P D vwK (w4 cI cJ h4 support4a having4a keys4a support4_22 having4_23 keys4 ruleCount4_25 ++ w2 cI cJ h2 labels2a guesses2a lengths2a words2a times2a totals2a sizes2a labels2 guesses2 lengths2 words2 times2 totals2 sizes2 rowCount2 addedUp2 addedDown2) H := hP
  have hD : va_D A (w4 cI cJ h4 support4a having4a keys4a support4_22 having4_23 keys4 ruleCount4_25 ++ w2 cI cJ h2 labels2a guesses2a lengths2a words2a times2a totals2a sizes2a labels2 guesses2 lengths2 words2 times2 totals2 sizes2 rowCount2 addedUp2 addedDown2) := hD
  refine lv_iconst (v := 0) hx hb dX4_gather_46 (by decide) ?_
  refine lv_topi (fun x2_26 ex2_26 => ?_)
  have h := nm_s h x2_26 ex2_26
  refine lv_istore_n (lv' := [(2, .int x2_26), (0, .ref h4)]) hx hb dX4_gather_47 rfl hl (by decide) rfl (fun ls hl => ?_)
  have L48 : ∀ (n : Nat) (y2_27 : Int32) (keys4_28 : Nat → Int32) (ruleCount4_29 : Int32) (z2_30 : Int32) (keys4_31 : Nat → Int32) (ruleCount4_32 : Int32), f_X4_gather_L48 support4_22 having4_23 n y2_27 keys4_28 ruleCount4_29 = some (z2_30, keys4_31, ruleCount4_32) → ∀ (H : Heap) (locs : List Loc) (ls : Array Slot), va_P D vwK (w4 cI cJ h4 support4a having4a keys4a support4_22 having4_23 keys4_28 ruleCount4_29 ++ w2 cI cJ h2 labels2a guesses2a lengths2a words2a times2a totals2a sizes2a labels2 guesses2 lengths2 words2 times2 totals2 sizes2 rowCount2 addedUp2 addedDown2) H → va_D A (w4 cI cJ h4 support4a having4a keys4a support4_22 having4_23 keys4_28 ruleCount4_29 ++ w2 cI cJ h2 labels2a guesses2a lengths2a words2a times2a totals2a sizes2a labels2 guesses2 lengths2 words2 times2 totals2 sizes2 rowCount2 addedUp2 addedDown2) → va_S A s.heap H locs → lv_has ls 3 [(2, .int y2_27), (0, .ref h4)] → (∀ (H : Heap) (locs : List Loc) (ls : Array Slot), va_P D vwK (w4 cI cJ h4 support4a having4a keys4a support4_22 having4_23 keys4_31 ruleCount4_32 ++ w2 cI cJ h2 labels2a guesses2a lengths2a words2a times2a totals2a sizes2a labels2 guesses2 lengths2 words2 times2 totals2 sizes2 rowCount2 addedUp2 addedDown2) H → va_D A (w4 cI cJ h4 support4a having4a keys4a support4_22 having4_23 keys4_31 ruleCount4_32 ++ w2 cI cJ h2 labels2a guesses2a lengths2a words2a times2a totals2a sizes2a labels2 guesses2 lengths2 words2 times2 totals2 sizes2 rowCount2 addedUp2 addedDown2) → va_S A s.heap H locs → lv_has ls 3 [] → W p l e (rmOf 2 45) s m args below meth c H locs 0 0 Q (F0 m 78 ls [])) → W p l e (rmOf 2 45) s m args below meth c H locs 0 0 Q (F0 m 48 ls []) := by
    intro n
    induction n with
    | zero => intro y2_27 keys4_28 ruleCount4_29 z2_30 keys4_31 ruleCount4_32 h; rw [f_X4_gather_L48.eq_1] at h; cases h
    | succ n ih =>
      intro y2_27 keys4_28 ruleCount4_29 z2_30 keys4_31 ruleCount4_32 h H locs ls hP hD hS hl K
      rw [f_X4_gather_L48.eq_2] at h
      refine lv_iload_n hx hb dX4_gather_48 rfl (lv_at hl 0 rfl) ?_
      refine lv_bipush (v := 64) hx hb dX4_gather_49 (by decide) ?_
      refine lv_icmp_ge (tgt := 78) hx hb dX4_gather_51 (by decide) (fun c_33 => ?_) (fun c_33 => ?_)
      · have h := it_p c_33 h
        cases h
        exact K _ _ _ hP hD hS (lv_sub hl [] rfl)
      · have h := it_n c_33 h
        refine lv_aload_n hx hb dX4_gather_54 rfl (lv_at hl 1 rfl) ?_
        refine va_get (D := D) (ci := 3) (v := .ref support4a) (C := RX4) (T := TX4) (N := 4) hx hb hts hinX4 hown hK.1 hP 0 rfl rfl 0 (by decide) hw1 (fun _ h9 => h9) rfl dX4_gather_55 ?_
        refine lv_iload_n hx hb dX4_gather_58 rfl (lv_at hl 0 rfl) ?_
        obtain ⟨hi_34, h⟩ := gA_s h
        refine va_iald hx hb hK.1 hP 1 0 rfl rfl hi_34 dX4_gather_59 ?_
        refine lv_topi (fun v_35 ev_35 => ?_)
        have h := h v_35 ev_35
        refine lv_if_le (tgt := 72) hx hb dX4_gather_60 (by decide) (fun c_36 => ?_) (fun c_36 => ?_)
        · have h := it_p c_36 h
          obtain ⟨x2_37, ex2_37⟩ : ∃ z : Int32, z = y2_27 + 1 := ⟨_, rfl⟩
          have h := nm_s h x2_37 ex2_37
          refine lv_iinc (v := x2_37) (lv' := [(2, .int x2_37), (0, .ref h4)]) hx hb dX4_gather_72 hl (k := 0) rfl (by rw [ex2_37]; rfl) (by decide) rfl (fun ls hl => ?_)
          refine lv_goto (tgt := 48) hx hb dX4_gather_75 (by decide) ?_
          exact ih _ _ _ _ _ _ h _ _ _ hP hD hS (lv_sub hl [0, 1] rfl) K
        · have h := it_n c_36 h
          refine lv_aload_n hx hb dX4_gather_63 rfl (lv_at hl 1 rfl) ?_
          refine lv_aload_n hx hb dX4_gather_64 rfl (lv_at hl 1 rfl) ?_
          refine lv_iload_n hx hb dX4_gather_65 rfl (lv_at hl 0 rfl) ?_
          obtain ⟨r_38, hc_39, h⟩ := bd_s h
          refine callVi (As := [.int y2_27]) (rest := [.ref h4]) (ws2 := (w4 cI cJ h4 support4a having4a keys4a support4_22 having4_23 keys4_28 ruleCount4_29 ++ w2 cI cJ h2 labels2a guesses2a lengths2a words2a times2a totals2a sizes2a labels2 guesses2 lengths2 words2 times2 totals2 sizes2 rowCount2 addedUp2 addedDown2)) ⟨hx, hb, hml, hown, hts⟩ (c_X4_keyOf l D cI cJ h4 support4a having4a keys4a support4_22 having4_23 keys4_28 ruleCount4_29 y2_27 r_38 hc_39) (cwV 1 hts gX4_gather_X4_keyOf rfl rfl rfl (by decide +kernel) ⟨Nat.le_of_ble_eq_true rfl, Nat.le_of_ble_eq_true rfl⟩) hK hP hD hS hA [0, 1, 2, 3] [4, 5, 6, 7, 8, 9, 10, 11] [8, 9, 10, 11, 0, 1, 2, 3, 4, 5, 6, 7] ⟨[(h2, .inr (1, [.ref labels2a, .ref guesses2a, .ref lengths2a, .ref words2a, .ref times2a, .ref totals2a, .ref sizes2a, .int rowCount2, .int addedUp2, .int addedDown2])), (labels2a, .inl (cI, 40, .inl labels2)), (guesses2a, .inl (cI, 40, .inl guesses2)), (lengths2a, .inl (cI, 40, .inl lengths2)), (words2a, .inl (cI, 240, .inl words2)), (times2a, .inl (cI, 32, .inl times2)), (totals2a, .inl (cI, 4, .inl totals2)), (sizes2a, .inl (cI, 4, .inl sizes2))], rfl, rfl, rfl, rfl, by decide, rfl, rfl⟩ 0 3 rfl rfl rfl rfl hl.1 rfl (Nat.le_of_ble_eq_true rfl) dX4_gather_66 ⟨Nat.zero_le _, Nat.zero_le _⟩ (fun H locs hP hD hS => ?_)
          obtain ⟨⟨keys4_40, ruleCount4_41⟩, hc_42, h⟩ := bd_s h
          refine callVv (As := [.int r_38]) (rest := []) (ws2 := (w4 cI cJ h4 support4a having4a keys4a support4_22 having4_23 keys4_40 ruleCount4_41 ++ w2 cI cJ h2 labels2a guesses2a lengths2a words2a times2a totals2a sizes2a labels2 guesses2 lengths2 words2 times2 totals2 sizes2 rowCount2 addedUp2 addedDown2)) ⟨hx, hb, hml, hown, hts⟩ (c_X4_insert l D cI cJ h4 support4a having4a keys4a support4_22 having4_23 keys4_28 ruleCount4_29 r_38 keys4_40 ruleCount4_41 hc_42) (cwV 1 hts gX4_gather_X4_insert rfl rfl rfl (by decide +kernel) ⟨Nat.le_of_ble_eq_true rfl, Nat.le_of_ble_eq_true rfl⟩) hK hP hD hS hA [0, 1, 2, 3] [4, 5, 6, 7, 8, 9, 10, 11] [8, 9, 10, 11, 0, 1, 2, 3, 4, 5, 6, 7] ⟨[(h2, .inr (1, [.ref labels2a, .ref guesses2a, .ref lengths2a, .ref words2a, .ref times2a, .ref totals2a, .ref sizes2a, .int rowCount2, .int addedUp2, .int addedDown2])), (labels2a, .inl (cI, 40, .inl labels2)), (guesses2a, .inl (cI, 40, .inl guesses2)), (lengths2a, .inl (cI, 40, .inl lengths2)), (words2a, .inl (cI, 240, .inl words2)), (times2a, .inl (cI, 32, .inl times2)), (totals2a, .inl (cI, 4, .inl totals2)), (sizes2a, .inl (cI, 4, .inl sizes2))], rfl, rfl, rfl, rfl, by decide, rfl, rfl⟩ 0 3 rfl rfl rfl rfl hl.1 rfl (Nat.le_of_ble_eq_true rfl) dX4_gather_69 ⟨Nat.zero_le _, Nat.zero_le _⟩ (fun H locs hP hD hS => ?_)
          obtain ⟨x2_43, ex2_43⟩ : ∃ z : Int32, z = y2_27 + 1 := ⟨_, rfl⟩
          have h := nm_s h x2_43 ex2_43
          refine lv_iinc (v := x2_43) (lv' := [(2, .int x2_43), (0, .ref h4)]) hx hb dX4_gather_72 hl (k := 0) rfl (by rw [ex2_43]; rfl) (by decide) rfl (fun ls hl => ?_)
          refine lv_goto (tgt := 48) hx hb dX4_gather_75 (by decide) ?_
          exact ih _ _ _ _ _ _ h _ _ _ hP hD hS (lv_sub hl [0, 1] rfl) K
  obtain ⟨⟨z2_44, keys4_45, ruleCount4_46⟩, hl_47, h⟩ := bd_s h
  refine L48 FU x2_26 keys4 ruleCount4_25 _ _ _ hl_47 _ _ _ hP hD hS (lv_sub hl [0, 1] rfl) (fun H locs ls hP hD hS hl => ?_)
  cases h
  exact hret _ _ _ _ hP hD hS dX4_gather_78
def f_X4_has (i1 : Int32) (ruleCount4 : Int32) : Option (Int32) :=
  if i1 < 0 then
    some 0
  else
    if ruleCount4 ≤ i1 then
      some 0
    else
      some 1
set_option maxHeartbeats 4000000 in
set_option maxRecDepth 100000 in
theorem c_X4_has (l : Launch) (D : va_G) (cI cJ : ClassId) (h4 support4a having4a keys4a : Nat) (support4 : Nat → Int32) (having4 : Nat → Int32) (keys4 : Nat → Int32) (ruleCount4 : Int32) (i1 : Int32) (ret9 : Int32) (h : f_X4_has i1 ruleCount4 = some ret9) : CI l D cI cJ yX4_has wsX4_has 0 0 [.ref h4, .int i1] (w4 cI cJ h4 support4a having4a keys4a support4 having4 keys4 ruleCount4) (w4 cI cJ h4 support4a having4a keys4a support4 having4 keys4 ruleCount4) ret9 := by
  refine entZ (cc := cX4_has) (maxL := 2) (by decide) rfl (Nat.le_of_ble_eq_true rfl) ?_
  intro p e s m args below meth c ls A Q X hret
  obtain ⟨hx, hb, hml, hts, hown, hK, hA, hP, hD, hS, hl, hnm⟩ := X
  have hown : s.vm.findClass RX4 = some m.cls := hown
  have hl : lv_has ls 2 [(0, .ref h4), (1, .int i1)] := hl
  have hw1 : (Cond.fieldLink RX4 21 "CountLearners$WordRules" "ruleCount" "I").before args s = true := hts _ (by decide +kernel)
  have hinX4 : ∀ w ∈ wsX40, w ∈ wsX4_has := by decide +kernel
  unfold f_X4_has at h
  refine lv_iload_n hx hb dX4_has_0 rfl (lv_at hl 1 rfl) ?_
  refine lv_if_lt (tgt := 16) hx hb dX4_has_1 (by decide) (fun c_1 => ?_) (fun c_1 => ?_)
  · have h := it_p c_1 h
    refine lv_iconst (v := 0) hx hb dX4_has_16 (by decide) ?_
    cases h
    exact hret _ _ _ _ (Or.inl rfl) hP hD hS dX4_has_17
  · have h := it_n c_1 h
    refine lv_iload_n hx hb dX4_has_4 rfl (lv_at hl 1 rfl) ?_
    refine lv_aload_n hx hb dX4_has_5 rfl (lv_at hl 0 rfl) ?_
    refine va_get (D := D) (ci := 3) (v := .int ruleCount4) (C := RX4) (T := TX4) (N := 4) hx hb hts hinX4 hown hK.1 hP 0 rfl rfl 3 (by decide) hw1 (fun _ h9 => h9) rfl dX4_has_6 ?_
    refine lv_icmp_ge (tgt := 16) hx hb dX4_has_9 (by decide) (fun c_2 => ?_) (fun c_2 => ?_)
    · have h := it_p c_2 h
      refine lv_iconst (v := 0) hx hb dX4_has_16 (by decide) ?_
      cases h
      exact hret _ _ _ _ (Or.inl rfl) hP hD hS dX4_has_17
    · have h := it_n c_2 h
      refine lv_iconst (v := 1) hx hb dX4_has_12 (by decide) ?_
      refine lv_goto (tgt := 17) hx hb dX4_has_13 (by decide) ?_
      cases h
      exact hret _ _ _ _ (Or.inr rfl) hP hD hS dX4_has_17
def f_X4_partOf (i1 : Int32) (i2 : Int32) (support4 : Nat → Int32) (having4 : Nat → Int32) (keys4 : Nat → Int32) : Option (Int32) :=
  gA 56 keys4 i1 fun v_2 =>
  dz 64 <|
  nm (α := Int32) ((v_2 - v_2 / 64 * 64)) fun x3_4 =>
  dz 8 <|
  nm (α := Int32) ((x3_4 / 8)) fun x4_6 =>
  if i2 = 0 then
    some x4_6
  else
    if i2 = 1 then
      dz 8 <|
      some (x3_4 - x3_4 / 8 * 8)
    else
      if i2 = 2 then
        gA 64 support4 x3_4 fun v_20 =>
        some v_20
      else
        gA 64 support4 x3_4 fun v_11 =>
        gA 8 having4 x4_6 fun v_13 =>
        if i2 = 4 then
          Option.bind (f_X0_sideOf (Int32.toInt64 v_11) (Int32.toInt64 v_13) 1) fun rj_17 =>
          some (Int64.toInt32 rj_17)
        else
          Option.bind (f_X0_sideOf (Int32.toInt64 v_11) (Int32.toInt64 v_13) 0) fun rj_15 =>
          some (Int64.toInt32 rj_15)
set_option maxHeartbeats 4000000 in
set_option maxRecDepth 100000 in
theorem c_X4_partOf (l : Launch) (D : va_G) (cI cJ : ClassId) (h4 support4a having4a keys4a : Nat) (support4 : Nat → Int32) (having4 : Nat → Int32) (keys4 : Nat → Int32) (ruleCount4 : Int32) (i1 : Int32) (i2 : Int32) (ret9 : Int32) (h : f_X4_partOf i1 i2 support4 having4 keys4 = some ret9) : CI l D cI cJ yX4_partOf wsX4_partOf 2 56 [.ref h4, .int i1, .int i2] (w4 cI cJ h4 support4a having4a keys4a support4 having4 keys4 ruleCount4) (w4 cI cJ h4 support4a having4a keys4a support4 having4 keys4 ruleCount4) ret9 := by
  refine entI (cc := cX4_partOf) (maxL := 5) (by decide) rfl (Nat.le_of_ble_eq_true rfl) ?_
  intro p e s m args below meth c ls A Q X hret
  obtain ⟨hx, hb, hml, hts, hown, hK, hA, hP, hD, hS, hl, hnm⟩ := X
  have hown : s.vm.findClass RX4 = some m.cls := hown
  have hl : lv_has ls 5 [(0, .ref h4), (1, .int i1), (2, .int i2)] := hl
  have hw1 : (Cond.fieldLink RX4 18 "CountLearners$WordRules" "keys" "[I").before args s = true := hts _ (by decide +kernel)
  have hinX4 : ∀ w ∈ wsX40, w ∈ wsX4_partOf := by decide +kernel
  have hw3 : (Cond.fieldLink RX4 11 "CountLearners$WordRules" "support" "[I").before args s = true := hts _ (by decide +kernel)
  have hw4 : (Cond.fieldLink RX4 15 "CountLearners$WordRules" "having" "[I").before args s = true := hts _ (by decide +kernel)
  unfold f_X4_partOf at h
  refine lv_aload_n hx hb dX4_partOf_0 rfl (lv_at hl 0 rfl) ?_
  refine va_get (D := D) (ci := 3) (v := .ref keys4a) (C := RX4) (T := TX4) (N := 4) hx hb hts hinX4 hown hK.1 hP 0 rfl rfl 2 (by decide) hw1 (fun _ h9 => h9) rfl dX4_partOf_1 ?_
  refine lv_iload_n hx hb dX4_partOf_4 rfl (lv_at hl 1 rfl) ?_
  obtain ⟨hi_1, h⟩ := gA_s h
  refine va_iald hx hb hK.1 hP 3 0 rfl rfl hi_1 dX4_partOf_5 ?_
  refine lv_topi (fun v_2 ev_2 => ?_)
  have h := h v_2 ev_2
  refine lv_bipush (v := 64) hx hb dX4_partOf_6 (by decide) ?_
  obtain ⟨hz_3, h⟩ := dz_s h
  refine lv_irem hx hb dX4_partOf_8 hz_3 ?_
  refine lv_topi (fun x3_4 ex3_4 => ?_)
  have h := nm_s h x3_4 ex3_4
  refine lv_istore_n (lv' := [(3, .int x3_4), (0, .ref h4), (1, .int i1), (2, .int i2)]) hx hb dX4_partOf_9 rfl hl (by decide) rfl (fun ls hl => ?_)
  refine lv_iload_n hx hb dX4_partOf_10 rfl (lv_at hl 0 rfl) ?_
  refine lv_bipush (v := 8) hx hb dX4_partOf_11 (by decide) ?_
  obtain ⟨hz_5, h⟩ := dz_s h
  refine lv_idiv hx hb dX4_partOf_13 hz_5 ?_
  refine lv_topi (fun x4_6 ex4_6 => ?_)
  have h := nm_s h x4_6 ex4_6
  refine lv_istore (lv' := [(4, .int x4_6), (3, .int x3_4), (0, .ref h4), (1, .int i1), (2, .int i2)]) hx hb dX4_partOf_14 hl (by decide) rfl (fun ls hl => ?_)
  refine lv_iload_n hx hb dX4_partOf_16 rfl (lv_at hl 4 rfl) ?_
  refine lv_if_ne (tgt := 23) hx hb dX4_partOf_17 (by decide) (fun c_7 => ?_) (fun c_7 => ?_)
  · have h := it_n c_7 h
    refine lv_iload_n hx hb dX4_partOf_23 rfl (lv_at hl 4 rfl) ?_
    refine lv_iconst (v := 1) hx hb dX4_partOf_24 (by decide) ?_
    refine lv_icmp_ne (tgt := 33) hx hb dX4_partOf_25 (by decide) (fun c_8 => ?_) (fun c_8 => ?_)
    · have h := it_n c_8 h
      refine lv_iload_n hx hb dX4_partOf_33 rfl (lv_at hl 4 rfl) ?_
      refine lv_iconst (v := 2) hx hb dX4_partOf_34 (by decide) ?_
      refine lv_icmp_ne (tgt := 45) hx hb dX4_partOf_35 (by decide) (fun c_9 => ?_) (fun c_9 => ?_)
      · have h := it_n c_9 h
        refine lv_aload_n hx hb dX4_partOf_45 rfl (lv_at hl 2 rfl) ?_
        refine va_get (D := D) (ci := 3) (v := .ref support4a) (C := RX4) (T := TX4) (N := 4) hx hb hts hinX4 hown hK.1 hP 0 rfl rfl 0 (by decide) hw3 (fun _ h9 => h9) rfl dX4_partOf_46 ?_
        refine lv_iload_n hx hb dX4_partOf_49 rfl (lv_at hl 1 rfl) ?_
        obtain ⟨hi_10, h⟩ := gA_s h
        refine va_iald hx hb hK.1 hP 1 0 rfl rfl hi_10 dX4_partOf_50 ?_
        refine lv_topi (fun v_11 ev_11 => ?_)
        have h := h v_11 ev_11
        refine lv_i2l (v := (Int32.toInt64 v_11)) hx hb dX4_partOf_51 rfl ?_
        refine lv_aload_n hx hb dX4_partOf_52 rfl (lv_at hl 2 rfl) ?_
        refine va_get (D := D) (ci := 3) (v := .ref having4a) (C := RX4) (T := TX4) (N := 4) hx hb hts hinX4 hown hK.1 hP 0 rfl rfl 1 (by decide) hw4 (fun _ h9 => h9) rfl dX4_partOf_53 ?_
        refine lv_iload hx hb dX4_partOf_56 (lv_at hl 0 rfl) ?_
        obtain ⟨hi_12, h⟩ := gA_s h
        refine va_iald hx hb hK.1 hP 2 0 rfl rfl hi_12 dX4_partOf_58 ?_
        refine lv_topi (fun v_13 ev_13 => ?_)
        have h := h v_13 ev_13
        refine lv_i2l (v := (Int32.toInt64 v_13)) hx hb dX4_partOf_59 rfl ?_
        refine lv_iload_n hx hb dX4_partOf_60 rfl (lv_at hl 4 rfl) ?_
        refine lv_iconst (v := 4) hx hb dX4_partOf_61 (by decide) ?_
        refine lv_icmp_ne (tgt := 69) hx hb dX4_partOf_62 (by decide) (fun c_14 => ?_) (fun c_14 => ?_)
        · have h := it_n c_14 h
          refine lv_iconst (v := 0) hx hb dX4_partOf_69 (by decide) ?_
          obtain ⟨rj_15, hc_16, h⟩ := bd_s h
          refine callPl (As := [.long (Int32.toInt64 v_11), .long (Int32.toInt64 v_13), .int 0]) (rest := []) ⟨hx, hb, hml, hown, hts⟩ (c_X0_sideOf l D cI cJ (Int32.toInt64 v_11) (Int32.toInt64 v_13) 0 rj_15 hc_16) (va_cwS 3 hts gX4_partOf_X0_sideOf rfl rfl rfl (by decide +kernel) ⟨Nat.le_of_ble_eq_true rfl, Nat.le_of_ble_eq_true rfl⟩) hK hP hD hS hA rfl hl.1 rfl (Nat.le_of_ble_eq_true rfl) dX4_partOf_70 ⟨Nat.zero_le _, Nat.zero_le _⟩ (fun H locs hP hD hS => ?_)
          refine lv_l2i (v := (Int64.toInt32 rj_15)) hx hb dX4_partOf_73 rfl ?_
          cases h
          exact hret _ _ _ _ hP hD hS dX4_partOf_74
        · have h := it_p c_14 h
          refine lv_iconst (v := 1) hx hb dX4_partOf_65 (by decide) ?_
          refine lv_goto (tgt := 70) hx hb dX4_partOf_66 (by decide) ?_
          obtain ⟨rj_17, hc_18, h⟩ := bd_s h
          refine callPl (As := [.long (Int32.toInt64 v_11), .long (Int32.toInt64 v_13), .int 1]) (rest := []) ⟨hx, hb, hml, hown, hts⟩ (c_X0_sideOf l D cI cJ (Int32.toInt64 v_11) (Int32.toInt64 v_13) 1 rj_17 hc_18) (va_cwS 3 hts gX4_partOf_X0_sideOf rfl rfl rfl (by decide +kernel) ⟨Nat.le_of_ble_eq_true rfl, Nat.le_of_ble_eq_true rfl⟩) hK hP hD hS hA rfl hl.1 rfl (Nat.le_of_ble_eq_true rfl) dX4_partOf_70 ⟨Nat.zero_le _, Nat.zero_le _⟩ (fun H locs hP hD hS => ?_)
          refine lv_l2i (v := (Int64.toInt32 rj_17)) hx hb dX4_partOf_73 rfl ?_
          cases h
          exact hret _ _ _ _ hP hD hS dX4_partOf_74
      · have h := it_p c_9 h
        refine lv_aload_n hx hb dX4_partOf_38 rfl (lv_at hl 2 rfl) ?_
        refine va_get (D := D) (ci := 3) (v := .ref support4a) (C := RX4) (T := TX4) (N := 4) hx hb hts hinX4 hown hK.1 hP 0 rfl rfl 0 (by decide) hw3 (fun _ h9 => h9) rfl dX4_partOf_39 ?_
        refine lv_iload_n hx hb dX4_partOf_42 rfl (lv_at hl 1 rfl) ?_
        obtain ⟨hi_19, h⟩ := gA_s h
        refine va_iald hx hb hK.1 hP 1 0 rfl rfl hi_19 dX4_partOf_43 ?_
        refine lv_topi (fun v_20 ev_20 => ?_)
        have h := h v_20 ev_20
        cases h
        exact hret _ _ _ _ hP hD hS dX4_partOf_44
    · have h := it_p c_8 h
      refine lv_iload_n hx hb dX4_partOf_28 rfl (lv_at hl 1 rfl) ?_
      refine lv_bipush (v := 8) hx hb dX4_partOf_29 (by decide) ?_
      obtain ⟨hz_21, h⟩ := dz_s h
      refine lv_irem hx hb dX4_partOf_31 hz_21 ?_
      cases h
      exact hret _ _ _ _ hP hD hS dX4_partOf_32
  · have h := it_p c_7 h
    refine lv_iload hx hb dX4_partOf_20 (lv_at hl 0 rfl) ?_
    cases h
    exact hret _ _ _ _ hP hD hS dX4_partOf_22
def f_X4_size (ruleCount4 : Int32) : Option (Int32) :=
  some ruleCount4
set_option maxHeartbeats 4000000 in
set_option maxRecDepth 100000 in
theorem c_X4_size (l : Launch) (D : va_G) (cI cJ : ClassId) (h4 support4a having4a keys4a : Nat) (support4 : Nat → Int32) (having4 : Nat → Int32) (keys4 : Nat → Int32) (ruleCount4 : Int32) (ret9 : Int32) (h : f_X4_size ruleCount4 = some ret9) : CI l D cI cJ yX4_size wsX4_size 0 0 [.ref h4] (w4 cI cJ h4 support4a having4a keys4a support4 having4 keys4 ruleCount4) (w4 cI cJ h4 support4a having4a keys4a support4 having4 keys4 ruleCount4) ret9 := by
  refine entI (cc := cX4_size) (maxL := 1) (by decide) rfl (Nat.le_of_ble_eq_true rfl) ?_
  intro p e s m args below meth c ls A Q X hret
  obtain ⟨hx, hb, hml, hts, hown, hK, hA, hP, hD, hS, hl, hnm⟩ := X
  have hown : s.vm.findClass RX4 = some m.cls := hown
  have hl : lv_has ls 1 [(0, .ref h4)] := hl
  have hw1 : (Cond.fieldLink RX4 21 "CountLearners$WordRules" "ruleCount" "I").before args s = true := hts _ (by decide +kernel)
  have hinX4 : ∀ w ∈ wsX40, w ∈ wsX4_size := by decide +kernel
  unfold f_X4_size at h
  refine lv_aload_n hx hb dX4_size_0 rfl (lv_at hl 0 rfl) ?_
  refine va_get (D := D) (ci := 3) (v := .int ruleCount4) (C := RX4) (T := TX4) (N := 4) hx hb hts hinX4 hown hK.1 hP 0 rfl rfl 3 (by decide) hw1 (fun _ h9 => h9) rfl dX4_size_1 ?_
  cases h
  exact hret _ _ _ _ hP hD hS dX4_size_4
