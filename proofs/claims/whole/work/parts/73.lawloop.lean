/-! the law's loop -/
theorem sw_in {j : Nat} (hj : j < 32) : j = 21 ∨ 21 < j ∨ j = 0 ∨ j = 1 ∨ j = 2 ∨ j = 3 ∨ j = 4 ∨ j = 5 ∨ j = 6 ∨ j = 7 ∨ j = 8 ∨ j = 9 ∨ j = 10 ∨ j = 11 ∨ j = 12 ∨ j = 13 ∨ j = 14 ∨ j = 15 ∨ j = 16 ∨ j = 17 ∨ j = 18 ∨ j = 19 ∨ j = 20 := by omega
set_option maxHeartbeats 4000000 in
set_option maxRecDepth 100000 in
theorem law_loop {p : Program} {l : Launch} {e : Env} {s : State} {m : MethodId} {below : List Frame} {meth : Method} {c : Code} {b L : Nat} {xs : Nat → Int32} {D : va_G} {cI cJ : ClassId} {h5 h6 oa : Nat} (C0 : LC p s m meth c b L xs D cI cJ) (htr : l.stackTraces = false) :
    ∀ (n k : Nat), 5 * k ≤ L → L + 1 ≤ 5 * k + n → ∀ (H : Heap) (locs : List Loc) (ls : Array Slot), LInv D cI cJ (fun q : Nat => s.heap.size ≤ q) h5 h6 oa H → va_S (fun q : Nat => s.heap.size ≤ q) s.heap H locs → lv_has ls 8 [(0, .ref b), (1, .ref h5), (2, .ref h6), (3, .ref oa), (4, .int (nI (5 * k)))] → W p l e room_1 s m #[Value.ref b] below meth c H locs (45 + k) (1366 + 6 * k) (lw_Z below #[Value.ref b] s) (F0 m 23 ls []) := by
  obtain ⟨⟨hx, hb, hr, hml, hown, hts0, hX, hbl, hlocks, hgv⟩, hK, hZ1, hZ2, hL⟩ := id C0
  have hbA : ¬ (fun q : Nat => s.heap.size ≤ q) b := Nat.not_le.mpr hbl
  intro n
  induction n with
  | zero =>
    intro k h1 h2
    exact absurd h2 (by omega)
  | succ n ih =>
    intro k h1 h2 H locs ls hI hS hl
    refine lv_iload hx hb dL_law_23 (lv_at hl 4 rfl) ?_
    refine lv_aload_n hx hb dL_law_25 rfl (lv_at hl 0 rfl) ?_
    refine va_slen hx hb hX hbl hbA hS dL_law_26 ?_
    refine lv_iconst (v := 5) hx hb dL_law_27 (by decide) ?_
    refine lv_isub hx hb dL_law_28 ?_
    have e5 : (Int32.ofNat L - 5 : Int32).toInt = (L : Int) - 5 := pk_sub_toInt (a := L) (b := 5) (by omega) (by decide)
    have ei : (nI (5 * k)).toInt = ((5 * k : Nat) : Int) := nI_toInt (by omega)
    refine lv_icmp_gt (tgt := 982) hx hb dL_law_29 (by decide) (fun _ => ?_) (fun q => ?_)
    · refine lv_iconst (v := 1) hx hb dL_law_982 (by decide) ?_
      refine va_forget (fun q hq => hS.2.2 q hq) ?_
      refine W.widen (k := 1071) (n := 9570) (by omega) (by omega) ?_
      exact lw_ret hx hb hr hlocks dL_law_983
    · have hi : 5 * k + 5 ≤ L := by
        have q : ¬ (Int32.ofNat L - 5 : Int32).toInt < (nI (5 * k)).toInt := fun h => q (Int32.lt_iff_toInt_lt.mpr h)
        rw [e5, ei] at q
        omega
      have nx : ∀ (H : Heap) (locs : List Loc) (ls : Array Slot), LInv D cI cJ (fun q : Nat => s.heap.size ≤ q) h5 h6 oa H → va_S (fun q : Nat => s.heap.size ≤ q) s.heap H locs → lv_has ls 8 [(0, .ref b), (1, .ref h5), (2, .ref h6), (3, .ref oa), (4, .int (nI (5 * k)))] → W p l e room_1 s m #[Value.ref b] below meth c H locs (45 + k + 1) (1366 + 6 * k + 6) (lw_Z below #[Value.ref b] s) (F0 m 976 ls []) := by
        intro H locs ls hI hS hl
        refine lv_iinc (v := nI (5 * (k + 1))) (lv' := [(4, .int (nI (5 * (k + 1)))), (0, .ref b), (1, .ref h5), (2, .ref h6), (3, .ref oa)]) hx hb dL_law_976 hl (k := 4) rfl (by rw [show Int32.ofInt 5 = nI 5 from rfl, nI_add]; rfl) (by decide) rfl (fun ls hl => ?_)
        refine lv_goto (tgt := 23) hx hb dL_law_979 (by decide) ?_
        exact ih (k + 1) (by omega) (by omega) H locs ls hI hS (lv_sub hl [1, 2, 3, 4, 0] rfl)
      refine lv_aload_n hx hb dL_law_32 rfl (lv_at hl 0 rfl) ?_
      refine lv_iload hx hb dL_law_33 (lv_at hl 4 rfl) ?_
      refine va_sld hx hb hX hbl hbA hS (vp_in_nI (show 5 * k < L by omega) (by omega)) dL_law_35 ?_
      refine lv_bipush (v := 31) hx hb dL_law_36 (by decide) ?_
      refine lv_iand hx hb dL_law_38 ?_
      obtain ⟨j, hj, ej⟩ := pk_andE (xs (nI (5 * k)).toNatClampNeg) (m := 31) 5 (by decide)
      rw [ej]
      have hc1 : 45 + k + 1 ≤ 1071 := by omega
      have hc2 : 1366 + 6 * k + 6 ≤ 9570 := by omega
      have out : 20 < j → W p l e room_1 s m #[Value.ref b] below meth c H locs (45 + k) (1366 + 6 * k) (lw_Z below #[Value.ref b] s) (F0 m 39 ls [.int (nI j)]) := by
        intro hj2
        refine lv_tableOut (tgt := 976) hx hb dL_law_39 (Or.inr (by rw [nI_toInt (show j < 2 ^ 31 by omega)]; omega)) (by decide) ?_
        refine W.widen (k := 45 + k + 1) (n := 1366 + 6 * k + 6) (by omega) (by omega) ?_
        exact nx H locs ls hI hS hl
      rcases sw_in hj with q | q | rfl | rfl | rfl | rfl | rfl | rfl | rfl | rfl | rfl | rfl | rfl | rfl | rfl | rfl | rfl | rfl | rfl | rfl | rfl | rfl | rfl
      · exact out (by omega)
      · exact out (by omega)
      · exact lv_tableIn (tgt := 136) hx hb dL_law_39 (by decide) (by decide) (show _ = some (97 : Int) by decide) (by decide) (law_row C0 htr hi hc1 hc2 hI hS hl nx)
      · exact lv_tableIn (tgt := 161) hx hb dL_law_39 (by decide) (by decide) (show _ = some (122 : Int) by decide) (by decide) (law_word C0 htr hi hc1 hc2 hI hS hl nx)
      · exact lv_tableIn (tgt := 198) hx hb dL_law_39 (by decide) (by decide) (show _ = some (159 : Int) by decide) (by decide) (law_label C0 htr hi hc1 hc2 hI hS hl nx)
      · exact lv_tableIn (tgt := 235) hx hb dL_law_39 (by decide) (by decide) (show _ = some (196 : Int) by decide) (by decide) (law_addition C0 htr hi hc1 hc2 hI hS hl nx)
      · exact lv_tableIn (tgt := 272) hx hb dL_law_39 (by decide) (by decide) (show _ = some (233 : Int) by decide) (by decide) (law_counted C0 htr hi hc1 hc2 hI hS hl nx)
      · exact lv_tableIn (tgt := 309) hx hb dL_law_39 (by decide) (by decide) (show _ = some (270 : Int) by decide) (by decide) (law_share C0 htr hi hc1 hc2 hI hS hl nx)
      · exact lv_tableIn (tgt := 388) hx hb dL_law_39 (by decide) (by decide) (show _ = some (349 : Int) by decide) (by decide) (law_weight C0 htr hi hc1 hc2 hI hS hl nx)
      · exact lv_tableIn (tgt := 438) hx hb dL_law_39 (by decide) (by decide) (show _ = some (399 : Int) by decide) (by decide) (law_best C0 htr hi hc1 hc2 hI hS hl nx)
      · exact lv_tableIn (tgt := 463) hx hb dL_law_39 (by decide) (by decide) (show _ = some (424 : Int) by decide) (by decide) (law_rounds C0 htr hi hc1 hc2 hI hS hl nx)
      · exact lv_tableIn (tgt := 488) hx hb dL_law_39 (by decide) (by decide) (show _ = some (449 : Int) by decide) (by decide) (law_guess C0 htr hi hc1 hc2 hI hS hl nx)
      · exact lv_tableIn (tgt := 513) hx hb dL_law_39 (by decide) (by decide) (show _ = some (474 : Int) by decide) (by decide) (law_text C0 htr hi hc1 hc2 hI hS hl nx)
      · exact lv_tableIn (tgt := 538) hx hb dL_law_39 (by decide) (by decide) (show _ = some (499 : Int) by decide) (by decide) (law_next C0 htr hi hc1 hc2 hI hS hl nx)
      · exact lv_tableIn (tgt := 600) hx hb dL_law_39 (by decide) (by decide) (show _ = some (561 : Int) by decide) (by decide) (law_likely C0 htr hi hc1 hc2 hI hS hl nx)
      · exact lv_tableIn (tgt := 637) hx hb dL_law_39 (by decide) (by decide) (show _ = some (598 : Int) by decide) (by decide) (law_weigh C0 htr hi hc1 hc2 hI hS hl nx)
      · exact lv_tableIn (tgt := 698) hx hb dL_law_39 (by decide) (by decide) (show _ = some (659 : Int) by decide) (by decide) (law_sign C0 htr hi hc1 hc2 hI hS hl nx)
      · exact lv_tableIn (tgt := 735) hx hb dL_law_39 (by decide) (by decide) (show _ = some (696 : Int) by decide) (by decide) (law_path C0 htr hi hc1 hc2 hI hS hl nx)
      · exact lv_tableIn (tgt := 772) hx hb dL_law_39 (by decide) (by decide) (show _ = some (733 : Int) by decide) (by decide) (law_total C0 htr hi hc1 hc2 hI hS hl nx)
      · exact lv_tableIn (tgt := 798) hx hb dL_law_39 (by decide) (by decide) (show _ = some (759 : Int) by decide) (by decide) (law_at C0 htr hi hc1 hc2 hI hS hl nx)
      · exact lv_tableIn (tgt := 889) hx hb dL_law_39 (by decide) (by decide) (show _ = some (850 : Int) by decide) (by decide) (law_learn C0 htr hi hc1 hc2 hI hS hl nx)
      · exact lv_tableIn (tgt := 914) hx hb dL_law_39 (by decide) (by decide) (show _ = some (875 : Int) by decide) (by decide) (law_rule C0 htr hi hc1 hc2 hI hS hl nx)
      · exact lv_tableIn (tgt := 951) hx hb dL_law_39 (by decide) (by decide) (show _ = some (912 : Int) by decide) (by decide) (law_count C0 htr hi hc1 hc2 hI hS hl nx)
