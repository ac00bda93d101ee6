/-! PURE: shares, weights, what is best -/
theorem fM_le (labels guesses : Nat → Int32) (len wd : Nat → Nat) (l w k : Nat) : fM labels guesses len wd l w k ≤ fT labels guesses len l k := by
  unfold fM fT
  split
  · have := sg_le (g := fun j => if wd (k * 6 + j) = w then 1 else 0) (b := 1) (len k) 0 (fun j _ _ => by split <;> omega)
    unfold cw
    omega
  · exact Nat.le_refl 0
theorem sg_mono {g f : Nat → Nat} : ∀ (m i : Nat), (∀ w, i ≤ w → w < i + m → g w ≤ f w) → sg g i m ≤ sg f i m := by
  intro m
  induction m with
  | zero => intro i _; exact Nat.le_refl 0
  | succ m ih =>
    intro i h
    have h1 := h i (Nat.le_refl i) (by omega)
    have h2 := ih (i + 1) (fun w a c => h w (by omega) (by omega))
    show g i + sg g (i + 1) m ≤ f i + sg f (i + 1) m
    omega
theorem TT_le {labels guesses lengths words : Nat → Int32} {n : Nat} {len wd : Nat → Nat} (h : wfR labels guesses lengths words n len wd) (l : Nat) : sg (fT labels guesses len l) 0 n ≤ 240 := by
  have h1 := sg_le (g := fT labels guesses len l) (b := 6) n 0 (fun k _ hk => by
    have := (h.2.2.2.1 k (by omega)).2
    unfold fT
    split <;> omega)
  have := h.1
  omega
theorem TM_le {labels guesses : Nat → Int32} {n : Nat} {len wd : Nat → Nat} (l w : Nat) : sg (fM labels guesses len wd l w) 0 n ≤ sg (fT labels guesses len l) 0 n := sg_mono n 0 (fun k _ _ => fM_le labels guesses len wd l w k)
theorem SZ_le {labels guesses lengths words : Nat → Int32} {n : Nat} {len wd : Nat → Nat} (h : wfR labels guesses lengths words n len wd) (l : Nat) : sg (fS labels guesses l) 0 n ≤ 40 := by
  have h1 := sg_le (g := fS labels guesses l) (b := 1) n 0 (fun k _ hk => by unfold fS; split <;> omega)
  have := h.1
  omega
def SU (labels guesses : Nat → Int32) (n : Nat) (len wd : Nat → Nat) (up dn l w : Nat) : Nat := sg (fM labels guesses len wd l w) 0 n * dn + up
def SL (labels guesses : Nat → Int32) (n : Nat) (len : Nat → Nat) (up dn l : Nat) : Nat := sg (fT labels guesses len l) 0 n * dn + 8 * up
section W0
variable {labels guesses lengths words times totals sizes : Nat → Int32} {n : Nat} {len wd : Nat → Nat} {up dn : Nat}
theorem SU_le (h : wfR labels guesses lengths words n len wd) (hu : up ≤ 3) (hd : dn ≤ 3) (l w : Nat) : SU labels guesses n len wd up dn l w ≤ 723 := by
  have h1 := TT_le h l
  have h2 : sg (fM labels guesses len wd l w) 0 n ≤ 240 := Nat.le_trans (TM_le l w) h1
  have h3 : sg (fM labels guesses len wd l w) 0 n * dn ≤ 240 * 3 := Nat.mul_le_mul h2 hd
  unfold SU
  omega
theorem SL_le (h : wfR labels guesses lengths words n len wd) (hu : up ≤ 3) (hd : dn ≤ 3) (l : Nat) : SL labels guesses n len up dn l ≤ 744 := by
  have h1 := TT_le h l
  have h3 : sg (fT labels guesses len l) 0 n * dn ≤ 240 * 3 := Nat.mul_le_mul h1 hd
  unfold SL
  omega
theorem SU_z (hd : 1 ≤ dn) {l : Nat} (h0 : SL labels guesses n len up dn l = 0) (w : Nat) : SU labels guesses n len wd up dn l w = 0 := by
  have h1 := TM_le (labels := labels) (guesses := guesses) (n := n) (len := len) (wd := wd) l w
  unfold SL at h0
  unfold SU
  have h2 : sg (fT labels guesses len l) 0 n * dn = 0 := by omega
  have h3 : sg (fT labels guesses len l) 0 n = 0 := by
    rcases Nat.mul_eq_zero.mp h2 with q | q
    · exact q
    · omega
  rw [show sg (fM labels guesses len wd l w) 0 n = 0 by omega]
  omega
theorem su_f (h : wfR labels guesses lengths words n len wd) (ht : tallied labels guesses n len wd times totals sizes) (hu : up ≤ 3) (hd : dn ≤ 3) {l w : Nat} (hl : l < 4) (hw : w < 8) : f_X2_shareUpper (nI l) (nI w) times (nI up) (nI dn) = some (lN (SU labels guesses n len wd up dn l w)) := by
  have h1 := TT_le h l
  have h2 := TM_le (labels := labels) (guesses := guesses) (n := n) (len := len) (wd := wd) l w
  unfold f_X2_shareUpper f_X2_timesIn
  rw [show (8 : Int32) = nI 8 from rfl, ix (b := 0), gA_n (by omega) (by decide), ht.1 l hl w hw]
  simp only [Option.bind_some]
  rw [nI_l (by omega), nI_l (by omega), nI_l (by omega), lN_mul, lN_add]
  rfl
theorem sl_f (h : wfR labels guesses lengths words n len wd) (ht : tallied labels guesses n len wd times totals sizes) (hu : up ≤ 3) (hd : dn ≤ 3) {l : Nat} (hl : l < 4) : f_X2_shareLower (nI l) totals (nI up) (nI dn) = some (lN (SL labels guesses n len up dn l)) := by
  have h1 := TT_le h l
  unfold f_X2_shareLower
  rw [gA_n (by omega) (by decide), ht.2.1 l hl, nI_l (by omega), nI_l (by omega), nI_l (by omega), show (8 : Int64) = lN 8 from rfl, lN_mul, lN_mul, lN_add]
  rfl
theorem sa6_f (h : wfR labels guesses lengths words n len wd) (hu : up ≤ 3) (hd : dn ≤ 3) {l w : Nat} (hw : w < 8) : f_X6_shareAbove (nI l) (nI w) (nI n) labels guesses lengths words (nI up) (nI dn) = some (lN (SU labels guesses n len wd up dn l w)) := by
  have h1 := TT_le h l
  have h2 := TM_le (labels := labels) (guesses := guesses) (n := n) (len := len) (wd := wd) l w
  unfold f_X6_shareAbove
  rw [ti_f h, fA_w h l hw]
  simp only [Option.bind_some]
  rw [nI_l (by omega), nI_l (by omega), nI_l (by omega), lN_mul, lN_add]
  rfl
theorem sb6_f (h : wfR labels guesses lengths words n len wd) (hu : up ≤ 3) (hd : dn ≤ 3) {l : Nat} : f_X6_shareBelow (nI l) (nI n) labels guesses lengths words (nI up) (nI dn) = some (lN (SL labels guesses n len up dn l)) := by
  have h1 := TT_le h l
  unfold f_X6_shareBelow
  rw [ti_f h, fA_all]
  simp only [Option.bind_some]
  rw [nI_l (by omega), nI_l (by omega), nI_l (by omega), show (8 : Int64) = lN 8 from rfl, lN_mul, lN_mul, lN_add]
  rfl
/-- products of m terms from i on -/
def pg (g : Nat → Nat) (i : Nat) : Nat → Nat
  | 0 => 1
  | m + 1 => g i * pg g (i + 1) m
theorem pg_le {g : Nat → Nat} {b : Nat} (hb : ∀ w, g w ≤ b) : ∀ (m i : Nat), pg g i m ≤ b ^ m := by
  intro m
  induction m with
  | zero => intro i; exact Nat.le_refl 1
  | succ m ih =>
    intro i
    show g i * pg g (i + 1) m ≤ b ^ (m + 1)
    rw [Nat.pow_succ, Nat.mul_comm (b ^ m) b]
    exact Nat.mul_le_mul (hb i) (ih (i + 1))
theorem pg_pos {g : Nat → Nat} (hb : ∀ w, 0 < g w) : ∀ (m i : Nat), 0 < pg g i m := by
  intro m
  induction m with
  | zero => intro i; exact Nat.one_pos
  | succ m ih => intro i; exact Nat.mul_pos (hb i) (ih (i + 1))
theorem wu_11 (h : wfR labels guesses lengths words n len wd) (ht : tallied labels guesses n len wd times totals sizes) (hu : up ≤ 3) (hd : dn ≤ 3) {k l : Nat} (hk : k < n) (hl : l < 4) : ∀ (m j fu P : Nat), j + m = len k → m < fu → f_X2_weightUpper_L11 (nI k) (nI l) lengths words times (nI up) (nI dn) fu (nI j) (lN P) = some (nI (len k), lN (P * pg (fun j => SU labels guesses n len wd up dn l (wd (k * 6 + j))) j m)) := by
  obtain ⟨hn, -, -, hlen, hwd⟩ := id h
  obtain ⟨hk1, hk2⟩ := hlen k hk
  intro m
  induction m with
  | zero =>
    intro j fu P hj hfu
    obtain ⟨fu, rfl⟩ : ∃ q, fu = q + 1 := ⟨fu - 1, by omega⟩
    have e : j = len k := by omega
    subst e
    rw [f_X2_weightUpper_L11.eq_2, gA_n (by omega) (by decide), hk1, if_pos (nI_le (Nat.le_refl _) (by omega))]
    show _ = some (nI (len k), lN (P * 1))
    rw [Nat.mul_one]
  | succ m ih =>
    intro j fu P hj hfu
    obtain ⟨fu, rfl⟩ : ∃ q, fu = q + 1 := ⟨fu - 1, by omega⟩
    obtain ⟨w1, w2⟩ := hwd k j hk (by omega)
    rw [f_X2_weightUpper_L11.eq_2, gA_n (by omega) (by decide), hk1, if_neg (nI_ge (by omega) (by omega)), show (6 : Int32) = nI 6 from rfl, ix (b := 0), gA_n (by omega) (by decide), w2, su_f h ht hu hd hl w1]
    simp only [Option.bind_some, nm, nI_1, lN_mul]
    rw [ih (j + 1) fu _ (by omega) (by omega), Nat.mul_assoc]
    rfl
theorem wl_5 (h : wfR labels guesses lengths words n len wd) (ht : tallied labels guesses n len wd times totals sizes) (hu : up ≤ 3) (hd : dn ≤ 3) {k l : Nat} (hk : k < n) (hl : l < 4) : ∀ (m j fu P : Nat), j + m = len k → m < fu → f_X2_weightLower_L5 (nI k) (nI l) lengths totals (nI up) (nI dn) fu (nI j) (lN P) = some (nI (len k), lN (P * pg (fun _ => SL labels guesses n len up dn l) j m)) := by
  obtain ⟨hn, -, -, hlen, hwd⟩ := id h
  obtain ⟨hk1, hk2⟩ := hlen k hk
  intro m
  induction m with
  | zero =>
    intro j fu P hj hfu
    obtain ⟨fu, rfl⟩ : ∃ q, fu = q + 1 := ⟨fu - 1, by omega⟩
    have e : j = len k := by omega
    subst e
    rw [f_X2_weightLower_L5.eq_2, gA_n (by omega) (by decide), hk1, if_pos (nI_le (Nat.le_refl _) (by omega))]
    show _ = some (nI (len k), lN (P * 1))
    rw [Nat.mul_one]
  | succ m ih =>
    intro j fu P hj hfu
    obtain ⟨fu, rfl⟩ : ∃ q, fu = q + 1 := ⟨fu - 1, by omega⟩
    rw [f_X2_weightLower_L5.eq_2, gA_n (by omega) (by decide), hk1, if_neg (nI_ge (by omega) (by omega)), sl_f h ht hu hd hl]
    simp only [Option.bind_some, nm, nI_1, lN_mul]
    rw [ih (j + 1) fu _ (by omega) (by omega), Nat.mul_assoc]
    rfl
def WU (labels guesses : Nat → Int32) (n : Nat) (len wd : Nat → Nat) (up dn k l : Nat) : Nat := sg (fS labels guesses l) 0 n * pg (fun j => SU labels guesses n len wd up dn l (wd (k * 6 + j))) 0 (len k)
def WL (labels guesses : Nat → Int32) (n : Nat) (len : Nat → Nat) (up dn k l : Nat) : Nat := pg (fun _ => SL labels guesses n len up dn l) 0 (len k)
theorem wu_f (h : wfR labels guesses lengths words n len wd) (ht : tallied labels guesses n len wd times totals sizes) (hu : up ≤ 3) (hd : dn ≤ 3) {k l : Nat} (hk : k < n) (hl : l < 4) : f_X2_weightUpper (nI k) (nI l) lengths words times sizes (nI up) (nI dn) = some (lN (WU labels guesses n len wd up dn k l)) := by
  have hF := FU_ge
  have h6 := (h.2.2.2.1 k hk).2
  have h40 := SZ_le h l
  unfold f_X2_weightUpper
  rw [gA_n hl (by decide), ht.2.2 l hl]
  simp only [nm]
  rw [nI_l (by omega), show (0 : Int32) = nI 0 from rfl, wu_11 h ht hu hd hk hl (len k) 0 FU _ (by omega) (by omega)]
  rfl
theorem wl_f (h : wfR labels guesses lengths words n len wd) (ht : tallied labels guesses n len wd times totals sizes) (hu : up ≤ 3) (hd : dn ≤ 3) {k l : Nat} (hk : k < n) (hl : l < 4) : f_X2_weightLower (nI k) (nI l) lengths totals (nI up) (nI dn) = some (lN (WL labels guesses n len up dn k l)) := by
  have hF := FU_ge
  have h6 := (h.2.2.2.1 k hk).2
  unfold f_X2_weightLower
  simp only [nm]
  rw [show (1 : Int64) = lN 1 from rfl, show (0 : Int32) = nI 0 from rfl, wl_5 h ht hu hd hk hl (len k) 0 FU 1 (by omega) (by omega), Nat.one_mul]
  rfl
theorem wr_n (h : wfR labels guesses lengths words n len wd) (hu : up ≤ 3) (hd : dn ≤ 3) {k l : Nat} (hk : k < n) (hs : 0 < SL labels guesses n len up dn l) : ∀ (m j fu P R : Nat), j + m = len k → m < fu → f_X6_weighRow_L24 (lN (SL labels guesses n len up dn l)) (nI k) (nI l) (nI n) labels guesses lengths words (nI up) (nI dn) fu (nI j) (lN P) (lN R) = some (nI (len k), lN (P * pg (fun j => SU labels guesses n len wd up dn l (wd (k * 6 + j))) j m), lN (R * pg (fun _ => SL labels guesses n len up dn l) j m)) := by
  obtain ⟨hn, -, -, hlen, hwd⟩ := id h
  obtain ⟨hk1, hk2⟩ := hlen k hk
  have h744 := SL_le h hu hd l
  have hne : ¬ lg_cmp (lN (SL labels guesses n len up dn l)) 0 = 0 := by
    rw [c_eq, l0, pk_lEQ (by omega) (by decide)]
    omega
  intro m
  induction m with
  | zero =>
    intro j fu P R hj hfu
    obtain ⟨fu, rfl⟩ : ∃ q, fu = q + 1 := ⟨fu - 1, by omega⟩
    have e : j = len k := by omega
    subst e
    rw [f_X6_weighRow_L24.eq_2, gA_n (by omega) (by decide), hk1, if_pos (nI_le (Nat.le_refl _) (by omega))]
    show _ = some (nI (len k), lN (P * 1), lN (R * 1))
    rw [Nat.mul_one, Nat.mul_one]
  | succ m ih =>
    intro j fu P R hj hfu
    obtain ⟨fu, rfl⟩ : ∃ q, fu = q + 1 := ⟨fu - 1, by omega⟩
    obtain ⟨w1, w2⟩ := hwd k j hk (by omega)
    rw [f_X6_weighRow_L24.eq_2, gA_n (by omega) (by decide), hk1, if_neg (nI_ge (by omega) (by omega)), if_neg hne, show (6 : Int32) = nI 6 from rfl, ix (b := 0), Nat.mul_comm 6 k, gA_n (by omega) (by decide), w2, sa6_f h hu hd w1]
    simp only [Option.bind_some, nm, nI_1, lN_mul, if_neg hne]
    rw [ih (j + 1) fu _ _ (by omega) (by omega), Nat.mul_assoc, Nat.mul_assoc]
    rfl
theorem wr_z (h : wfR labels guesses lengths words n len wd) {k l : Nat} (hk : k < n) : ∀ (m j fu P R : Nat), j + m = len k → m < fu → f_X6_weighRow_L24 (lN 0) (nI k) (nI l) (nI n) labels guesses lengths words (nI up) (nI dn) fu (nI j) (lN P) (lN R) = some (nI (len k), if m = 0 then lN P else lN 0, if m = 0 then lN R else lN 1) := by
  obtain ⟨hn, -, -, hlen, hwd⟩ := id h
  obtain ⟨hk1, hk2⟩ := hlen k hk
  have hze : lg_cmp (lN 0) 0 = 0 := (c_eq _ _).mpr rfl
  intro m
  induction m with
  | zero =>
    intro j fu P R hj hfu
    obtain ⟨fu, rfl⟩ : ∃ q, fu = q + 1 := ⟨fu - 1, by omega⟩
    have e : j = len k := by omega
    subst e
    rw [f_X6_weighRow_L24.eq_2, gA_n (by omega) (by decide), hk1, if_pos (nI_le (Nat.le_refl _) (by omega))]
    rfl
  | succ m ih =>
    intro j fu P R hj hfu
    obtain ⟨fu, rfl⟩ : ∃ q, fu = q + 1 := ⟨fu - 1, by omega⟩
    rw [f_X6_weighRow_L24.eq_2, gA_n (by omega) (by decide), hk1, if_neg (nI_ge (by omega) (by omega)), if_pos hze]
    simp only [nm, nI_1, if_pos hze]
    rw [show (0 : Int64) = lN 0 from rfl, show (1 : Int64) = lN 1 from rfl, ih (j + 1) fu 0 1 (by omega) (by omega)]
    by_cases q : m = 0
    · simp [q]
    · simp [q]
/-- what the reference weighs a row by, beside what the class does -/
theorem wr_f (h : wfR labels guesses lengths words n len wd) (hu : up ≤ 3) (hd0 : 1 ≤ dn) (hd : dn ≤ 3) {k l : Nat} (hk : k < n) (wa wo : Int64) : ∃ A B, f_X6_weighRow (nI k) (nI l) (nI n) labels guesses lengths words (nI up) (nI dn) wa wo = some (lN A, lN B) ∧ A < 2 ^ 63 ∧ 0 < B ∧ B < 2 ^ 63 ∧ A = WU labels guesses n len wd up dn k l ∧ (0 < A → B = WL labels guesses n len up dn k l) ∧ (B = WL labels guesses n len up dn k l ∨ A = 0 ∧ B = 1) := by
  have hF := FU_ge
  have h6 := (h.2.2.2.1 k hk).2
  have h40 := SZ_le h l
  have h744 := SL_le h hu hd l
  have q1 : pg (fun j => SU labels guesses n len wd up dn l (wd (k * 6 + j))) 0 (len k) ≤ 723 ^ 6 := Nat.le_trans (pg_le (fun w => SU_le h hu hd l _) (len k) 0) (Nat.pow_le_pow_right (by decide) h6)
  have q2 : pg (fun _ => SL labels guesses n len up dn l) 0 (len k) ≤ 744 ^ 6 := Nat.le_trans (pg_le (fun _ => h744) (len k) 0) (Nat.pow_le_pow_right (by decide) h6)
  have q3 : WU labels guesses n len wd up dn k l ≤ 40 * 723 ^ 6 := Nat.mul_le_mul h40 q1
  unfold f_X6_weighRow
  rw [ro_f h, sb6_f h hu hd]
  simp only [Option.bind_some, nm]
  rw [nI_l (by omega), show (1 : Int64) = lN 1 from rfl, show (0 : Int32) = nI 0 from rfl]
  rcases Nat.eq_zero_or_pos (SL labels guesses n len up dn l) with hz | hp
  · rw [hz, wr_z h hk (len k) 0 FU _ 1 (by omega) (by omega)]
    simp only [Option.bind_some]
    by_cases c : len k = 0
    · rw [if_pos c, if_pos c]
      have e1 : WU labels guesses n len wd up dn k l = sg (fS labels guesses l) 0 n := by unfold WU; rw [c]; exact Nat.mul_one _
      have e2 : WL labels guesses n len up dn k l = 1 := by unfold WL; rw [c]; rfl
      exact ⟨_, _, rfl, by omega, by decide, by decide, e1.symm, fun _ => e2.symm, Or.inl e2.symm⟩
    · rw [if_neg c, if_neg c]
      have e1 : WU labels guesses n len wd up dn k l = 0 := by
        unfold WU
        obtain ⟨q, hq⟩ : ∃ q, len k = q + 1 := ⟨len k - 1, by omega⟩
        rw [hq]
        show _ * (SU labels guesses n len wd up dn l (wd (k * 6 + 0)) * _) = 0
        rw [SU_z hd0 hz, Nat.zero_mul, Nat.mul_zero]
      exact ⟨_, _, rfl, by decide, by decide, by decide, e1.symm, fun q => absurd q (by decide), Or.inr ⟨rfl, rfl⟩⟩
  · rw [wr_n h hu hd hk hp (len k) 0 FU _ 1 (by omega) (by omega), Nat.one_mul]
    simp only [Option.bind_some]
    exact ⟨_, _, rfl, Nat.lt_of_le_of_lt q3 (by decide), pg_pos (fun _ => hp) (len k) 0, Nat.lt_of_le_of_lt q2 (by decide), rfl, fun _ => rfl, Or.inl rfl⟩
theorem be_L (h : wfR labels guesses lengths words n len wd) (ht : tallied labels guesses n len wd times totals sizes) (hu : up ≤ 3) (hd0 : 1 ≤ dn) (hd : dn ≤ 3) {k : Nat} (hk : k < n) : ∀ (m l fu c d : Nat) (best : Int32) (wa wo : Int64), l + m = 4 → m < fu → c < 2 ^ 63 → 0 < d → d < 2 ^ 63 → LB best → ∃ r x1 x2 x3 y1 y2 y3 y4 y5, f_X2_bestLabel_L10 (nI k) lengths words times totals sizes (nI up) (nI dn) fu (nI l) (lN d) (lN c) best = some (x1, x2, x3, r) ∧ f_X6_bestOf_L10 (nI k) (nI n) labels guesses lengths words (nI up) (nI dn) fu (nI l) (lN d) (lN c) best wa wo = some (y1, y2, y3, r, y4, y5) ∧ LB r := by
  intro m
  induction m with
  | zero =>
    intro l fu c d best wa wo hl hfu _ _ _ hB
    obtain ⟨fu, rfl⟩ : ∃ q, fu = q + 1 := ⟨fu - 1, by omega⟩
    have e : l = 4 := by omega
    subst e
    rw [f_X2_bestLabel_L10.eq_2, f_X6_bestOf_L10.eq_2, if_pos (show (4 : Int32) ≤ nI 4 from nI_le (Nat.le_refl _) (by decide)), if_pos (show (4 : Int32) ≤ nI 4 from nI_le (Nat.le_refl _) (by decide))]
    exact ⟨_, _, _, _, _, _, _, _, _, rfl, rfl, hB⟩
  | succ m ih =>
    intro l fu c d best wa wo hl hfu hc d0 hd2 hB
    obtain ⟨fu, rfl⟩ : ∃ q, fu = q + 1 := ⟨fu - 1, by omega⟩
    obtain ⟨A, B, e1, e2, e3, e4, e5, e6, e7⟩ := wr_f h hu hd0 hd hk (l := l) wa wo
    rw [f_X2_bestLabel_L10.eq_2, f_X6_bestOf_L10.eq_2, if_neg (show ¬ (4 : Int32) ≤ nI l from nI_ge (b := 4) (by omega) (by decide)), if_neg (show ¬ (4 : Int32) ≤ nI l from nI_ge (b := 4) (by omega) (by decide)), wu_f h ht hu hd hk (by omega), e1]
    simp only [Option.bind_some, nm, nI_1]
    rw [wl_f h ht hu hd hk (by omega), above6 e2 e4 hc hd2 e3 d0]
    simp only [Option.bind_some]
    rcases Nat.eq_zero_or_pos A with hA | hA
    · rw [← e5, if_pos (show lg_cmp (lN A) 0 ≤ 0 from (c_le _ _).mpr (by rw [l0, pk_lLE e2 (by decide)]; omega)), if_neg (show ¬ c * B < A * d by rw [hA]; omega), if_pos rfl]
      exact ih (l + 1) fu c d best _ _ (by omega) (by omega) hc d0 hd2 hB
    · have eB := e6 hA
      rw [← e5, ← eB, if_neg (show ¬ lg_cmp (lN A) 0 ≤ 0 from fun q => by rw [c_le, l0, pk_lLE e2 (by decide)] at q; omega), above0 e2 e4 hc hd2 e3 d0]
      simp only [Option.bind_some]
      by_cases q : c * B < A * d
      · rw [if_pos q, if_neg b10]
        exact ih (l + 1) fu A B (nI l) _ _ (by omega) (by omega) e2 e3 e4 (Or.inr ⟨l, by omega, rfl⟩)
      · rw [if_neg q, if_pos rfl]
        exact ih (l + 1) fu c d best _ _ (by omega) (by omega) hc d0 hd2 hB
/-- what is best for a row -/
theorem be_f (h : wfR labels guesses lengths words n len wd) (ht : tallied labels guesses n len wd times totals sizes) (hu : up ≤ 3) (hd0 : 1 ≤ dn) (hd : dn ≤ 3) {k : Nat} (hk : k < n) : ∃ r, f_X2_bestLabel (nI k) lengths words times totals sizes (nI up) (nI dn) = some r ∧ LB r ∧ ∀ wa wo, ∃ y4 y5, f_X6_bestOf (nI k) (nI n) labels guesses lengths words (nI up) (nI dn) wa wo = some (r, y4, y5) := by
  have hF := FU_ge
  unfold f_X2_bestLabel f_X6_bestOf
  simp only [nm]
  rw [show (0 : Int32) = nI 0 from rfl, show (0 : Int64) = lN 0 from rfl, show (1 : Int64) = lN 1 from rfl]
  obtain ⟨r, x1, x2, x3, y1, y2, y3, y4, y5, e1, -, e3⟩ := be_L h ht hu hd0 hd hk 4 0 FU 0 1 (-1) 0 0 (by omega) (by omega) (by decide) (by decide) (by decide) (Or.inl rfl)
  rw [e1]
  simp only [Option.bind_some]
  refine ⟨r, rfl, e3, fun wa wo => ?_⟩
  obtain ⟨r', a1, a2, a3, z1, z2, z3, z4, z5, f1, f2, -⟩ := be_L h ht hu hd0 hd hk 4 0 FU 0 1 (-1) wa wo (by omega) (by omega) (by decide) (by decide) (by decide) (Or.inl rfl)
  have e9 : r' = r := by
    rw [e1] at f1
    simp only [Option.some.injEq, Prod.mk.injEq] at f1
    exact f1.2.2.2.symm
  rw [f2, e9]
  exact ⟨_, _, rfl⟩
end W0
theorem st_share (i1 i2 i3 : Int32) {labels2 guesses2 lengths2 words2 times2 totals2 sizes2 labels6 guesses6 sizes6 words6 : Nat → Int32} {rowCount2 addedUp2 addedDown2 rows6 up6 down6 : Int32} (hI : INVr labels2 guesses2 lengths2 words2 times2 totals2 sizes2 rowCount2 addedUp2 addedDown2 rows6 labels6 guesses6 sizes6 words6 up6 down6) (thrown6 : Int32) :
    ∃ o b th, f_X5_share i1 i2 i3 times2 totals2 addedUp2 addedDown2 = some o ∧ f_X6_share i1 i2 i3 thrown6 rows6 labels6 guesses6 sizes6 words6 up6 down6 = some (b, th) ∧ (o = none ∧ th = 1 ∨ o = some b ∧ th = 0) := by
  obtain ⟨rfl, rfl, rfl, rfl, rfl, rfl, rfl, n, len, wd, up, dn, rfl, hw, ht, rfl, hu2, rfl, hd2, hd3, hz, hg⟩ := hI
  unfold f_X5_share f_X6_share
  simp only [nm, isLabel5, isWord5, isSide5, within6, Option.bind_some]
  rcases wb_d i1 3 (m := 3) rfl with c1 | ⟨c1, l, hl, rfl⟩
  · rw [if_pos c1, if_pos c1]
    exact ⟨_, _, _, rfl, rfl, Or.inr ⟨rfl, rfl⟩⟩
  · rw [c1, if_neg b10, if_neg b10]
    rcases wb_d i2 7 (m := 7) rfl with c2 | ⟨c2, w, hw8, rfl⟩
    · rw [if_pos c2, if_pos c2]
      exact ⟨_, _, _, rfl, rfl, Or.inr ⟨rfl, rfl⟩⟩
    · rw [c2, if_neg b10, if_neg b10]
      by_cases c3 : wb i3 0 1 = 0
      · rw [if_pos c3, if_pos c3]
        exact ⟨_, _, _, rfl, rfl, Or.inr ⟨rfl, rfl⟩⟩
      · rw [if_neg c3, if_neg c3, sl_f hw ht hu2 hd3 (by omega), sb6_f hw hu2 hd3]
        simp only [Option.bind_some]
        have h744 := SL_le hw hu2 hd3 l
        have h723 := SU_le hw hu2 hd3 l w
        rcases Nat.eq_zero_or_pos (SL labels6 guesses6 n len up dn l) with q | q
        · rw [q, if_pos (show lg_cmp (lN 0) 0 = 0 from (c_eq _ _).mpr rfl), if_pos (show lg_cmp (lN 0) 0 = 0 from (c_eq _ _).mpr rfl)]
          exact ⟨_, _, _, rfl, rfl, Or.inl ⟨rfl, rfl⟩⟩
        · have hne : ¬ lg_cmp (lN (SL labels6 guesses6 n len up dn l)) 0 = 0 := by
            rw [c_eq, l0, pk_lEQ (by omega) (by decide)]
            omega
          rw [if_neg hne, if_neg hne, su_f hw ht hu2 hd3 (by omega) (by omega), sa6_f hw hu2 hd3 (by omega)]
          simp only [Option.bind_some]
          rw [side0 (by omega) q (by omega), side6 (by omega) q (by omega)]
          exact ⟨_, _, _, rfl, rfl, Or.inr ⟨rfl, rfl⟩⟩
theorem st_weight (i1 i2 i3 : Int32) {labels2 guesses2 lengths2 words2 times2 totals2 sizes2 labels6 guesses6 sizes6 words6 : Nat → Int32} {rowCount2 addedUp2 addedDown2 rows6 up6 down6 : Int32} (hI : INVr labels2 guesses2 lengths2 words2 times2 totals2 sizes2 rowCount2 addedUp2 addedDown2 rows6 labels6 guesses6 sizes6 words6 up6 down6) (thrown6 : Int32) (wa wo : Int64) :
    ∃ r wa' wo', f_X5_weight i1 i2 i3 lengths2 words2 times2 totals2 sizes2 rowCount2 addedUp2 addedDown2 = some r ∧ f_X6_weight i1 i2 i3 thrown6 rows6 labels6 guesses6 sizes6 words6 up6 down6 wa wo = some (r, 0, wa', wo') := by
  obtain ⟨rfl, rfl, rfl, rfl, rfl, rfl, rfl, n, len, wd, up, dn, rfl, hw, ht, rfl, hu2, rfl, hd2, hd3, hz, hg⟩ := hI
  unfold f_X5_weight f_X6_weight
  simp only [nm, isLabel5, isSide5, within6]
  rcases has_d i1 hw.1 with ⟨p1, p2⟩ | ⟨p1, p2, k, hk, rfl⟩
  · rw [p1, p2]
    exact ⟨_, _, _, rfl, rfl⟩
  · rw [p1, p2]
    simp only [Option.bind_some]
    rw [if_neg b10, if_neg b10]
    rcases wb_d i2 3 (m := 3) rfl with c1 | ⟨c1, l, hl, rfl⟩
    · rw [if_pos c1, if_pos c1]
      exact ⟨_, _, _, rfl, rfl⟩
    · rw [c1, if_neg b10, if_neg b10]
      by_cases c3 : wb i3 0 1 = 0
      · rw [if_pos c3, if_pos c3]
        exact ⟨_, _, _, rfl, rfl⟩
      · obtain ⟨A, B, e1, e2, e3, e4, e5, e6, e7⟩ := wr_f hw hu2 hd2 hd3 hk (l := l) wa wo
        rw [if_neg c3, if_neg c3, wu_f hw ht hu2 hd3 hk (by omega), wl_f hw ht hu2 hd3 hk (by omega), e1]
        simp only [Option.bind_some]
        rw [← e5]
        rcases e7 with q | ⟨q1, q2⟩
        · rw [← q, side0 e2 e3 e4, side6 e2 e3 e4]
          exact ⟨_, _, _, rfl, rfl⟩
        · rw [q1, q2, side0_z, side6_z]
          exact ⟨_, _, _, rfl, rfl⟩
theorem st_best (i1 : Int32) {labels2 guesses2 lengths2 words2 times2 totals2 sizes2 labels6 guesses6 sizes6 words6 : Nat → Int32} {rowCount2 addedUp2 addedDown2 rows6 up6 down6 : Int32} (hI : INVr labels2 guesses2 lengths2 words2 times2 totals2 sizes2 rowCount2 addedUp2 addedDown2 rows6 labels6 guesses6 sizes6 words6 up6 down6) (thrown6 : Int32) (wa wo : Int64) :
    ∃ r wa' wo', f_X5_best i1 lengths2 words2 times2 totals2 sizes2 rowCount2 addedUp2 addedDown2 = some r ∧ f_X6_best i1 thrown6 rows6 labels6 guesses6 sizes6 words6 up6 down6 wa wo = some (r, 0, wa', wo') := by
  obtain ⟨rfl, rfl, rfl, rfl, rfl, rfl, rfl, n, len, wd, up, dn, rfl, hw, ht, rfl, hu2, rfl, hd2, hd3, hz, hg⟩ := hI
  unfold f_X5_best f_X6_best
  simp only [nm]
  rcases has_d i1 hw.1 with ⟨p1, p2⟩ | ⟨p1, p2, k, hk, rfl⟩
  · rw [p1, p2]
    exact ⟨_, _, _, rfl, rfl⟩
  · obtain ⟨r, e1, e2, e3⟩ := be_f hw ht hu2 hd2 hd3 hk
    obtain ⟨y4, y5, e4⟩ := e3 wa wo
    rw [p1, p2]
    simp only [Option.bind_some]
    rw [if_neg b10, if_neg b10, e1, e4]
    exact ⟨_, _, _, rfl, rfl⟩
