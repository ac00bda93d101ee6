/-! PURE: states, their weights and signs -/
/-- a loop over i .. N that keeps I -/
theorem loop_inv {β : Type} (L : Nat → Int32 → β → Option (Int32 × β)) (N : Nat) (I : Nat → β → Prop) (hend : ∀ fu b, I N b → L (fu + 1) (nI N) b = some (nI N, b)) (hstep : ∀ fu i b, i < N → I i b → ∃ b', I (i + 1) b' ∧ L (fu + 1) (nI i) b = L fu (nI (i + 1)) b') : ∀ (m i fu : Nat) (b : β), i + m = N → m < fu → I i b → ∃ b', I N b' ∧ L fu (nI i) b = some (nI N, b') := by
  intro m
  induction m with
  | zero =>
    intro i fu b hi hfu h
    obtain ⟨fu, rfl⟩ : ∃ q, fu = q + 1 := ⟨fu - 1, by omega⟩
    have e : i = N := by omega
    subst e
    exact ⟨b, h, hend fu b h⟩
  | succ m ih =>
    intro i fu b hi hfu h
    obtain ⟨fu, rfl⟩ : ∃ q, fu = q + 1 := ⟨fu - 1, by omega⟩
    obtain ⟨b', h1, h2⟩ := hstep fu i b (by omega) h
    obtain ⟨b2, h3, h4⟩ := ih (i + 1) fu b' (by omega) (by omega) h1
    exact ⟨b2, h3, by rw [h2, h4]⟩
/-- the rows of signs as they may be -/
def wfG (signs lengths : Nat → Int32) (len sn : Nat → Nat) : Prop := (∀ r, r < 4 → lengths r = nI (len r) ∧ len r ≤ 5) ∧ ∀ r j, r < 4 → j < len r → sn (r * 5 + j) < 4 ∧ signs (r * 5 + j) = nI (sn (r * 5 + j))
/-- weights as they may be, beside the reference's -/
def wfW (weights start move sho : Nat → Int32) (W : Nat → Nat) : Prop := (∀ k, k < 36 → weights k = nI (W k) ∧ W k ≤ 21) ∧ (∀ k, k < 4 → start k = weights k) ∧ (∀ k, k < 16 → move k = weights (4 + k)) ∧ ∀ k, k < 16 → sho k = weights (20 + k)
def INVs (weights1 signs1 lengths1 start6 move6 show6 signs6 many6 : Nat → Int32) : Prop := signs6 = signs1 ∧ many6 = lengths1 ∧ ∃ len sn W, wfG signs1 lengths1 len sn ∧ wfW weights1 start6 move6 show6 W
theorem b4 (x : Int32) : (if x < 0 then some (0 : Int32) else if 4 ≤ x then some 0 else some 1) = some (wb x 0 3) := by
  unfold wb
  by_cases h : x < 0
  · rw [if_pos h, if_pos h]
  · rw [if_neg h, if_neg h]
    by_cases h2 : 3 < x
    · have e1 := Int32.lt_iff_toInt_lt.mp h2
      have e2 : (3 : Int32).toInt = 3 := rfl
      have e3 : (4 : Int32).toInt = 4 := rfl
      rw [if_pos h2, if_pos (Int32.le_iff_toInt_le.mpr (by omega))]
    · have e1 : ¬ (3 : Int32).toInt < x.toInt := fun q => h2 (Int32.lt_iff_toInt_lt.mpr q)
      have e2 : (3 : Int32).toInt = 3 := rfl
      have e3 : (4 : Int32).toInt = 4 := rfl
      rw [if_neg h2, if_neg (fun q => by have := Int32.le_iff_toInt_le.mp q; omega)]
theorem isState1 (x : Int32) : f_X1_isState x = some (wb x 0 3) := b4 x
theorem isSign1 (x : Int32) : f_X1_isSign x = some (wb x 0 3) := b4 x
theorem isRow1 (x : Int32) : f_X1_isRow x = some (wb x 0 3) := b4 x
theorem wb_no {x M : Int32} {k : Nat} (h : wb x 0 M = 0) (hM : M = nI k) (hk : k < 2 ^ 31) {j : Nat} (hj : j ≤ k) : ¬ x = nI j := by
  intro e
  rw [e, wb_i hM hk hj] at h
  exact absurd h (by decide)
/-- a weight's place -/
theorem place_f (i1 i2 i3 : Int32) : f_X1_placeOf i1 i2 i3 = some (if wb i2 0 3 = 0 then (-1) else if i1 = 0 then i2 else if wb i3 0 3 = 0 then (-1) else if i1 = 1 then 4 + i2 * 4 + i3 else if i1 = 2 then 20 + i2 * 4 + i3 else (-1)) := by
  unfold f_X1_placeOf f_X1_moveAt f_X1_showAt
  simp only [isState1, isSign1, Option.bind_some]
  by_cases c1 : wb i2 0 3 = 0
  · rw [if_pos c1, if_pos c1]
  · rw [if_neg c1, if_neg c1]
    by_cases c2 : i1 = 0
    · rw [if_pos c2, if_pos c2]
    · rw [if_neg c2, if_neg c2]
      by_cases c3 : i1 = 1
      · rw [if_pos c3, if_pos c3, if_neg (show ¬ i1 = 2 by rw [c3]; decide)]
        by_cases c4 : wb i3 0 3 = 0
        · rw [if_pos c4, if_pos c4]
        · rw [if_neg c4, if_neg c4]
      · rw [if_neg c3, if_neg c3]
        by_cases c5 : i1 = 2
        · rw [if_pos c5, if_pos c5]
          by_cases c4 : wb i3 0 3 = 0
          · rw [if_pos c4, if_pos c4]
          · rw [if_neg c4, if_neg c4]
        · rw [if_neg c5, if_neg c5]
          by_cases c4 : wb i3 0 3 = 0
          · rw [if_pos c4]
          · rw [if_neg c4]
theorem wbm_d (x M : Int32) {m : Nat} (hM : M = nI m) (hm : m < 2 ^ 30) : wb x (-1) M = 0 ∨ wb x (-1) M = 1 ∧ (x = (-1) ∨ ∃ k, k ≤ m ∧ x = nI k) := by
  unfold wb
  by_cases h : x < (-1)
  · rw [if_pos h]; exact Or.inl rfl
  · rw [if_neg h]
    by_cases h2 : M < x
    · rw [if_pos h2]; exact Or.inl rfl
    · rw [if_neg h2]
      refine Or.inr ⟨rfl, ?_⟩
      by_cases h3 : x = (-1)
      · exact Or.inl h3
      · refine Or.inr (nI_of2 (M := M) (by rw [hM]; exact nI_toInt (by omega)) (fun q => ?_) ?_)
        · have e1 := Int32.lt_iff_toInt_lt.mp q
          have e2 : ¬ x.toInt < (-1 : Int32).toInt := fun q => h (Int32.lt_iff_toInt_lt.mpr q)
          have e3 : (-1 : Int32).toInt = -1 := rfl
          have e4 : (0 : Int32).toInt = 0 := rfl
          exact h3 (Int32.toInt_inj.mp (by omega))
        · have e1 : ¬ M.toInt < x.toInt := fun q => h2 (Int32.lt_iff_toInt_lt.mpr q)
          exact Int32.le_iff_toInt_le.mpr (by omega)
/-- one weight changes, of both -/
theorem wfW_set {weights start move sho : Nat → Int32} {W : Nat → Nat} (h : wfW weights start move sho W) {p v : Nat} (hp : p < 36) (hv : v ≤ 21) {start' move' sho' : Nat → Int32} (h1 : ∀ k, k < 4 → start' k = if k = p then nI v else start k) (h2 : ∀ k, k < 16 → move' k = if 4 + k = p then nI v else move k) (h3 : ∀ k, k < 16 → sho' k = if 20 + k = p then nI v else sho k) : wfW (upd weights p (nI v)) start' move' sho' (fun k => if k = p then v else W k) := by
  obtain ⟨a, b, c, d⟩ := h
  refine ⟨fun k hk => ?_, fun k hk => ?_, fun k hk => ?_, fun k hk => ?_⟩
  · rw [upd_eq]
    by_cases q : k = p
    · simp only [if_pos q]; exact ⟨trivial, hv⟩
    · simp only [if_neg q]; exact a k hk
  · rw [upd_eq, h1 k hk, b k hk]
  · rw [upd_eq, h2 k hk, c k hk]
  · rw [upd_eq, h3 k hk, d k hk]
theorem st_weigh (i1 i2 i3 i4 : Int32) {weights1 signs1 lengths1 start6 move6 show6 signs6 many6 : Nat → Int32} (hI : INVs weights1 signs1 lengths1 start6 move6 show6 signs6 many6) (thrown6 : Int32) :
    ∃ r weights1' start6' move6' show6', f_X5_weigh i1 i2 i3 i4 weights1 = some (r, weights1') ∧ f_X6_weigh i1 i2 i3 i4 thrown6 start6 move6 show6 = some (r, 0, start6', move6', show6') ∧ INVs weights1' signs1 lengths1 start6' move6' show6' signs6 many6 := by
  have hI0 := hI
  obtain ⟨rfl, rfl, len, sn, W, hG, hW⟩ := hI
  obtain ⟨a, b, c, d⟩ := id hW
  unfold f_X5_weigh f_X6_weigh
  simp only [nm, place_f, within5, within6, Option.bind_some]
  rcases wb_d i2 3 (m := 3) rfl with c2 | ⟨c2, x, hx, rfl⟩
  · rw [if_pos c2, if_pos rfl]
    simp only [c2, if_true]
    by_cases c1 : wb i1 0 2 = 0
    · rw [if_pos c1]; exact ⟨_, _, _, _, _, rfl, rfl, hI0⟩
    · rw [if_neg c1]; exact ⟨_, _, _, _, _, rfl, rfl, hI0⟩
  · rw [c2, if_neg b10]
    simp only [if_neg b10]
    rcases wb_d i1 2 (m := 2) rfl with c1 | ⟨c1, w, hw, rfl⟩
    · have q0 := wb_no c1 (k := 2) rfl (by decide) (j := 0) (by omega)
      have q1 := wb_no c1 (k := 2) rfl (by decide) (j := 1) (by omega)
      have q2 := wb_no c1 (k := 2) rfl (by decide) (j := 2) (by omega)
      rw [if_pos c1, if_neg (show ¬ i1 = 0 from q0), if_neg (show ¬ i1 = 1 from q1), if_neg (show ¬ i1 = 2 from q2)]
      simp only [ite_self, if_true]
      exact ⟨_, _, _, _, _, rfl, rfl, hI0⟩
    · rw [c1, if_neg b10]
      have hw3 : w = 0 ∨ w = 1 ∨ w = 2 := by omega
      have nope : ∀ k, k < 36 → ¬ nI k = (-1) := fun k hk => nI_nm1 (by omega)
      rcases hw3 with rfl | rfl | rfl
      · rw [if_pos (show nI 0 = 0 from rfl), if_neg (nope x (by omega)), if_pos (show nI 0 ≤ 0 by decide)]
        rcases wbm_d i4 21 (m := 21) rfl (by decide) with c4 | ⟨c4, h4⟩
        · rw [if_pos c4, if_pos c4]; exact ⟨_, _, _, _, _, rfl, rfl, hI0⟩
        · rw [c4, if_neg b10, if_neg b10, if_pos (show nI 0 = 0 from rfl)]
          unfold f_X1_reweigh
          rw [gA_n (by omega) (by decide), gA_n (by omega) (by decide), b x (by omega)]
          simp only [nm]
          rcases h4 with rfl | ⟨v, hv, rfl⟩
          · rw [if_pos rfl, if_pos rfl]; exact ⟨_, _, _, _, _, rfl, rfl, hI0⟩
          · rw [if_neg (nope v (by omega)), if_neg (nope v (by omega)), if_pos (show nI 0 = 0 from rfl), sI_n (by omega) (by decide), sI_n (by omega) (by decide)]
            refine ⟨_, _, _, _, _, rfl, rfl, rfl, rfl, len, sn, _, hG, wfW_set hW (by omega) hv (fun k _ => upd_eq _ _ _ _) (fun k _ => by rw [if_neg (by omega)]) (fun k _ => by rw [if_neg (by omega)])⟩
      · rw [if_neg (show ¬ nI 1 = 0 by decide), if_neg (show ¬ nI 1 ≤ 0 by decide)]
        rcases wb_d i3 3 (m := 3) rfl with c3 | ⟨c3, y, hy, rfl⟩
        · rw [if_pos c3, if_pos c3, if_pos rfl]; exact ⟨_, _, _, _, _, rfl, rfl, hI0⟩
        · have e1 : (4 + nI x * 4 + nI y : Int32) = nI (4 + x * 4 + y) := by
            rw [show (4 : Int32) = nI 4 from rfl, pk_mul, nI_add, nI_add]
          have e2 : (4 * nI x + nI y : Int32) = nI (x * 4 + y) := by
            rw [show (4 : Int32) = nI 4 from rfl, pk_mul, nI_add, Nat.mul_comm 4 x]
          rw [c3, if_neg b10, if_neg b10, if_pos (show nI 1 = 1 from rfl), e1, e2, if_neg (nope _ (by omega))]
          rcases wbm_d i4 21 (m := 21) rfl (by decide) with c4 | ⟨c4, h4⟩
          · rw [if_pos c4, if_pos c4]; exact ⟨_, _, _, _, _, rfl, rfl, hI0⟩
          · rw [c4, if_neg b10, if_neg b10, if_neg (show ¬ nI 1 = 0 by decide), if_pos (show nI 1 = 1 from rfl)]
            unfold f_X1_reweigh
            rw [gA_n (by omega) (by decide), gA_n (by omega) (by decide), c (x * 4 + y) (by omega), ← Nat.add_assoc]
            simp only [nm]
            rcases h4 with rfl | ⟨v, hv, rfl⟩
            · rw [if_pos rfl, if_pos rfl]; exact ⟨_, _, _, _, _, rfl, rfl, hI0⟩
            · rw [if_neg (nope v (by omega)), if_neg (nope v (by omega)), if_neg (show ¬ nI 1 = 0 by decide), if_pos (show nI 1 = 1 from rfl), sI_n (by omega) (by decide), sI_n (by omega) (by decide)]
              refine ⟨_, _, _, _, _, rfl, rfl, rfl, rfl, len, sn, _, hG, wfW_set hW (by omega) hv (fun k _ => by rw [if_neg (by omega)]) (fun k _ => ?_) (fun k _ => by rw [if_neg (by omega)])⟩
              rw [upd_eq]
              by_cases q : k = x * 4 + y
              · rw [if_pos q, if_pos (by omega)]
              · rw [if_neg q, if_neg (by omega)]
      · rw [if_neg (show ¬ nI 2 = 0 by decide), if_neg (show ¬ nI 2 ≤ 0 by decide)]
        rcases wb_d i3 3 (m := 3) rfl with c3 | ⟨c3, y, hy, rfl⟩
        · rw [if_pos c3, if_pos c3, if_pos rfl]; exact ⟨_, _, _, _, _, rfl, rfl, hI0⟩
        · have e1 : (20 + nI x * 4 + nI y : Int32) = nI (20 + x * 4 + y) := by
            rw [show (4 : Int32) = nI 4 from rfl, show (20 : Int32) = nI 20 from rfl, pk_mul, nI_add, nI_add]
          have e2 : (4 * nI x + nI y : Int32) = nI (x * 4 + y) := by
            rw [show (4 : Int32) = nI 4 from rfl, pk_mul, nI_add, Nat.mul_comm 4 x]
          rw [c3, if_neg b10, if_neg b10, if_neg (show ¬ nI 2 = 1 by decide), if_pos (show nI 2 = 2 from rfl), e1, e2, if_neg (nope _ (by omega))]
          rcases wbm_d i4 21 (m := 21) rfl (by decide) with c4 | ⟨c4, h4⟩
          · rw [if_pos c4, if_pos c4]; exact ⟨_, _, _, _, _, rfl, rfl, hI0⟩
          · rw [c4, if_neg b10, if_neg b10, if_neg (show ¬ nI 2 = 0 by decide), if_neg (show ¬ nI 2 = 1 by decide)]
            unfold f_X1_reweigh
            rw [gA_n (by omega) (by decide), gA_n (by omega) (by decide), d (x * 4 + y) (by omega), ← Nat.add_assoc]
            simp only [nm]
            rcases h4 with rfl | ⟨v, hv, rfl⟩
            · rw [if_pos rfl, if_pos rfl]; exact ⟨_, _, _, _, _, rfl, rfl, hI0⟩
            · rw [if_neg (nope v (by omega)), if_neg (nope v (by omega)), if_neg (show ¬ nI 2 = 0 by decide), if_neg (show ¬ nI 2 = 1 by decide), sI_n (by omega) (by decide), sI_n (by omega) (by decide)]
              refine ⟨_, _, _, _, _, rfl, rfl, rfl, rfl, len, sn, _, hG, wfW_set hW (by omega) hv (fun k _ => by rw [if_neg (by omega)]) (fun k _ => by rw [if_neg (by omega)]) (fun k _ => ?_)⟩
              rw [upd_eq]
              by_cases q : k = x * 4 + y
              · rw [if_pos q, if_pos (by omega)]
              · rw [if_neg q, if_neg (by omega)]
theorem st_sign (i1 i2 : Int32) {weights1 signs1 lengths1 start6 move6 show6 signs6 many6 : Nat → Int32} (hI : INVs weights1 signs1 lengths1 start6 move6 show6 signs6 many6) (thrown6 : Int32) :
    ∃ r signs1' lengths1' signs6' many6', f_X5_sign i1 i2 signs1 lengths1 = some (r, signs1', lengths1') ∧ f_X6_sign i1 i2 thrown6 signs6 many6 = some (r, 0, signs6', many6') ∧ INVs weights1 signs1' lengths1' start6 move6 show6 signs6' many6' := by
  have hI0 := hI
  obtain ⟨rfl, rfl, len, sn, W, ⟨g1, g2⟩, hW⟩ := hI
  unfold f_X5_sign f_X6_sign
  simp only [nm, isRow1, isSign1, within6, Option.bind_some]
  rcases wb_d i1 3 (m := 3) rfl with c1 | ⟨c1, x, hx, rfl⟩
  · rw [if_pos c1, if_pos c1]; exact ⟨_, _, _, _, _, rfl, rfl, hI0⟩
  · rw [c1, if_neg b10, if_neg b10]
    rcases wb_d i2 3 (m := 3) rfl with c2 | ⟨c2, y, hy, rfl⟩
    · rw [if_pos c2, if_pos c2]; exact ⟨_, _, _, _, _, rfl, rfl, hI0⟩
    · rw [c2, if_neg b10, if_neg b10]
      obtain ⟨k1, k2⟩ := g1 x (by omega)
      unfold f_X1_isFullRow
      rw [gA_n (by omega) (by decide), gA_n (by omega) (by decide), k1]
      by_cases h5 : len x = 5
      · rw [h5, if_neg (show ¬ nI 5 < 5 by decide), if_pos (show nI 5 = 5 from rfl)]
        simp only [Option.bind_some]
        rw [if_neg b10]
        exact ⟨_, _, _, _, _, rfl, rfl, hI0⟩
      · rw [if_pos (show nI (len x) < 5 from nI_lt (b := 5) (by omega) (by decide)), if_neg (show ¬ nI (len x) = 5 from fun h => h5 ((nI_eq (b := 5) (by omega) (by decide)).mp h))]
        simp only [Option.bind_some, if_true]
        unfold f_X1_append
        rw [gA_n (by omega) (by decide), gA_n (by omega) (by decide), k1, show (5 : Int32) = nI 5 from rfl, ix (b := 0), ix (b := 0), Nat.mul_comm 5 x, sI_n (by omega) (by decide), sI_n (by omega) (by decide), gA_n (by omega) (by decide), gA_n (by omega) (by decide), k1, nI_1, sI_n (by omega) (by decide), sI_n (by omega) (by decide), gA_n (by omega) (by decide), gA_n (by omega) (by decide)]
        refine ⟨_, _, _, _, _, rfl, rfl, rfl, rfl, fun q => if q = x then len x + 1 else len q, fun q => if q = x * 5 + len x then y else sn q, W, ⟨fun q hq => ?_, fun q j hq hj => ?_⟩, hW⟩
        · by_cases c : q = x
          · simp only [upd_eq, if_pos c]; exact ⟨trivial, by omega⟩
          · simp only [upd_eq, if_neg c]; exact g1 q hq
        · by_cases c : q * 5 + j = x * 5 + len x
          · simp only [upd_eq, if_pos c]; exact ⟨by omega, trivial⟩
          · simp only [upd_eq, if_neg c]
            refine g2 q j hq ?_
            by_cases e : q = x
            · simp only [if_pos e] at hj; subst e; omega
            · simp only [if_neg e] at hj; exact hj
