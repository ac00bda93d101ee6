/-! PURE: row, word, label, addition, counted, guess: class and reference alike -/
def INVr (labels2 guesses2 lengths2 words2 times2 totals2 sizes2 : Nat → Int32) (rowCount2 addedUp2 addedDown2 rows6 : Int32) (labels6 guesses6 sizes6 words6 : Nat → Int32) (up6 down6 : Int32) : Prop :=
  rows6 = rowCount2 ∧ labels6 = labels2 ∧ guesses6 = guesses2 ∧ sizes6 = lengths2 ∧ words6 = words2 ∧ up6 = addedUp2 ∧ down6 = addedDown2 ∧ ∃ (n : Nat) (len wd : Nat → Nat) (up dn : Nat), rowCount2 = nI n ∧ wfR labels2 guesses2 lengths2 words2 n len wd ∧ tallied labels2 guesses2 n len wd times2 totals2 sizes2 ∧ addedUp2 = nI up ∧ up ≤ 3 ∧ addedDown2 = nI dn ∧ 1 ≤ dn ∧ dn ≤ 3 ∧ (∀ k, n ≤ k → k < 40 → lengths2 k = 0) ∧ ∀ k, k < n → ¬ labels2 k = (-1) → guesses2 k = (-1)
theorem wb_neg {x M : Int32} (h : x < 0) : wb x 0 M = 0 := by unfold wb; rw [if_pos h]
theorem wb_big {x M : Int32} {m : Nat} (hM : M.toInt + 1 = m) (hm : m < 2 ^ 31) (h : nI m ≤ x) : wb x 0 M = 0 := by
  unfold wb
  have e1 := Int32.le_iff_toInt_le.mp h
  rw [nI_toInt hm] at e1
  by_cases h0 : x < 0
  · rw [if_pos h0]
  · rw [if_neg h0, if_pos (Int32.lt_iff_toInt_lt.mpr (by omega))]
theorem lon (x : Int32) : f_X5_isLabelOrNone x = some (wb x (-1) 3) := by
  unfold f_X5_isLabelOrNone
  rw [wbm _ _ (by decide), isLabel5]
  simp only [Option.bind_some]
  by_cases h : x = (-1)
  · rw [if_pos h, if_pos h]
  · rw [if_neg h, if_neg h]
    rcases wb_01 x 0 3 with e | e
    · rw [e, if_pos rfl]
    · rw [e, if_neg b10]
theorem mayBe6 (x : Int32) : f_X6_mayBe x = some (wb x (-1) 3) := by
  unfold f_X6_mayBe
  rw [within6]
  exact bz_p (wb_01 _ _ _)
theorem lon_LB {x : Int32} (h : ¬ wb x (-1) 3 = 0) : LB x := by
  rw [wbm _ _ (by decide)] at h
  by_cases c : x = (-1)
  · exact Or.inl c
  · rw [if_neg c] at h
    rcases wb_d x 3 (m := 3) rfl with e | ⟨-, k, hk, e⟩
    · exact absurd e h
    · exact Or.inr ⟨k, by omega, e⟩
/-- a row's number: there is such a row, or not -/
theorem has_d (x : Int32) {n : Nat} (hn : n ≤ 40) : (f_X2_has x (nI n) = some 0 ∧ f_X6_isRow x (nI n) = some 0) ∨ (f_X2_has x (nI n) = some 1 ∧ f_X6_isRow x (nI n) = some 1 ∧ ∃ k, k < n ∧ x = nI k) := by
  unfold f_X2_has f_X6_isRow
  rw [within6]
  simp only [Option.bind_some]
  rw [bz_p (wb_01 _ _ _)]
  have e1 : (nI n - 1).toInt = (n : Int) - 1 := pk_sub_toInt (b := 1) (by omega) (by decide)
  rcases pk_ix x (n := n) (by omega) with h | h | ⟨k, hk, rfl⟩
  · rw [if_pos h, wb_neg h]
    exact Or.inl ⟨rfl, rfl⟩
  · rw [wb_big (m := n) (by omega) (by omega) h]
    by_cases h0 : x < 0
    · rw [if_pos h0]; exact Or.inl ⟨rfl, rfl⟩
    · rw [if_neg h0, if_pos h]; exact Or.inl ⟨rfl, rfl⟩
  · refine Or.inr ⟨?_, ?_, k, hk, rfl⟩
    · rw [if_neg (nI_pos (by omega)), if_neg (nI_ge hk (by omega))]
    · rw [wb_i (m := n - 1) (by rw [show (1 : Int32) = nI 1 from rfl, pk_sub (by omega)]) (by omega) (by omega)]
theorem st_row (i1 : Int32) {labels2 guesses2 lengths2 words2 times2 totals2 sizes2 labels6 guesses6 sizes6 words6 : Nat → Int32} {rowCount2 addedUp2 addedDown2 rows6 up6 down6 : Int32} (hI : INVr labels2 guesses2 lengths2 words2 times2 totals2 sizes2 rowCount2 addedUp2 addedDown2 rows6 labels6 guesses6 sizes6 words6 up6 down6) (thrown6 : Int32) :
    ∃ r labels2' guesses2' times2' totals2' sizes2' rowCount2' rows6' labels6' guesses6' sizes6', f_X5_row i1 labels2 guesses2 lengths2 words2 times2 totals2 sizes2 rowCount2 = some (r, labels2', guesses2', times2', totals2', sizes2', rowCount2') ∧ f_X6_row i1 thrown6 rows6 labels6 guesses6 sizes6 = some (r, 0, rows6', labels6', guesses6', sizes6') ∧ INVr labels2' guesses2' lengths2 words2 times2' totals2' sizes2' rowCount2' addedUp2 addedDown2 rows6' labels6' guesses6' sizes6' words6 up6 down6 := by
  have hI0 := hI
  obtain ⟨rfl, rfl, rfl, rfl, rfl, rfl, rfl, n, len, wd, up, dn, rfl, hw, ht, hu1, hu2, hd1, hd2, hd3, hz, hg⟩ := hI
  unfold f_X5_row f_X6_row
  simp only [nm, lon, mayBe6, Option.bind_some]
  by_cases c1 : wb i1 (-1) 3 = 0
  · rw [if_pos c1, if_pos c1]
    exact ⟨_, _, _, _, _, _, _, _, _, _, _, rfl, rfl, hI0⟩
  · rw [if_neg c1, if_neg c1]
    obtain ⟨hn, w1, w2, w3, w4⟩ := id hw
    unfold f_X2_isFull
    by_cases h40 : n = 40
    · subst h40
      rw [if_neg (show ¬ nI 40 < 40 by decide), if_pos (show nI 40 = 40 from rfl)]
      simp only [Option.bind_some]
      rw [if_neg b10]
      exact ⟨_, _, _, _, _, _, _, _, _, _, _, rfl, rfl, hI0⟩
    · rw [if_pos (show nI n < 40 from nI_lt (b := 40) (by omega) (by decide)), if_neg (show ¬ nI n = 40 from fun h => h40 ((nI_eq (b := 40) (by omega) (by decide)).mp h))]
      simp only [Option.bind_some, if_true]
      unfold f_X2_open
      simp only [nm]
      rw [sI_n (by omega) (by decide), sI_n (by omega) (by decide), sI_n (by omega) (by decide), nI_1]
      obtain ⟨g, t', o', s', e1, e2, e3, e4⟩ := sa_f (labels := upd labels6 n i1) (guesses := guesses6) (lengths := sizes6) (words := words6) (n := n + 1) (len := fun k => if k < n then len k else 0) (wd := wd) (by omega) (fun k hk => by
        rw [upd_eq]
        by_cases q : k = n
        · rw [if_pos q]; exact lon_LB c1
        · rw [if_neg q]; exact w1 k (by omega)) (fun k hk => by
        by_cases q : k < n
        · simp only [if_pos q]; exact w3 k q
        · simp only [if_neg q]; exact ⟨hz k (by omega) (by omega), by omega⟩) (fun k j hk hj => by
        by_cases q : k < n
        · simp only [if_pos q] at hj; exact w4 k j q hj
        · simp only [if_neg q] at hj; omega) times2 totals2 sizes2
      rw [e1, fo_f guesses6 e2]
      simp only [Option.bind_some]
      have e5 : upd sizes6 n 0 = sizes6 := by
        funext k
        rw [upd_eq]
        by_cases q : k = n
        · rw [if_pos q, q, hz n (Nat.le_refl n) (by omega)]
        · rw [if_neg q]
      have e6 : nI (n + 1) - 1 = nI n := nI_pred n
      rw [e5, e6]
      refine ⟨_, _, _, _, _, _, _, _, _, _, _, rfl, rfl, rfl, rfl, rfl, rfl, rfl, rfl, rfl, n + 1, _, wd, up, dn, rfl, e3, e4, hu1, hu2, hd1, hd2, hd3, fun k a b => hz k (by omega) b, fun k hk _ => ?_⟩
      rw [e2, if_pos (by omega)]
theorem st_label (i1 i2 : Int32) {labels2 guesses2 lengths2 words2 times2 totals2 sizes2 labels6 guesses6 sizes6 words6 : Nat → Int32} {rowCount2 addedUp2 addedDown2 rows6 up6 down6 : Int32} (hI : INVr labels2 guesses2 lengths2 words2 times2 totals2 sizes2 rowCount2 addedUp2 addedDown2 rows6 labels6 guesses6 sizes6 words6 up6 down6) (thrown6 : Int32) :
    ∃ r labels2' guesses2' times2' totals2' sizes2' labels6' guesses6', f_X5_label i1 i2 labels2 guesses2 lengths2 words2 times2 totals2 sizes2 rowCount2 = some (r, labels2', guesses2', times2', totals2', sizes2') ∧ f_X6_label i1 i2 thrown6 rows6 labels6 guesses6 = some (r, 0, labels6', guesses6') ∧ INVr labels2' guesses2' lengths2 words2 times2' totals2' sizes2' rowCount2 addedUp2 addedDown2 rows6 labels6' guesses6' sizes6 words6 up6 down6 := by
  have hI0 := hI
  obtain ⟨rfl, rfl, rfl, rfl, rfl, rfl, rfl, n, len, wd, up, dn, rfl, hw, ht, hu1, hu2, hd1, hd2, hd3, hz, hg⟩ := hI
  obtain ⟨hn, w1, w2, w3, w4⟩ := id hw
  unfold f_X5_label f_X6_label
  simp only [nm, lon, mayBe6]
  rcases has_d i1 hn with ⟨p1, p2⟩ | ⟨p1, p2, k, hk, rfl⟩
  · rw [p1, p2]
    exact ⟨_, _, _, _, _, _, _, _, rfl, rfl, hI0⟩
  · rw [p1, p2]
    simp only [Option.bind_some]
    rw [if_neg b10, if_neg b10]
    by_cases c1 : wb i2 (-1) 3 = 0
    · rw [if_pos c1, if_pos c1]
      exact ⟨_, _, _, _, _, _, _, _, rfl, rfl, hI0⟩
    · rw [if_neg c1, if_neg c1]
      unfold f_X2_relabel
      simp only [nm]
      rw [gA_n (by omega) (by decide), gA_n (by omega) (by decide), sI_n (by omega) (by decide), sI_n (by omega) (by decide)]
      obtain ⟨g, t', o', s', e1, e2, e3, e4⟩ := sa_f (labels := upd labels6 k i2) (guesses := guesses6) (lengths := sizes6) (words := words6) (n := n) (len := len) (wd := wd) hn (fun q hq => by
        rw [upd_eq]
        by_cases c : q = k
        · rw [if_pos c]; exact lon_LB c1
        · rw [if_neg c]; exact w1 q hq) w3 w4 times2 totals2 sizes2
      rw [e1, fo_f guesses6 e2]
      simp only [Option.bind_some]
      refine ⟨_, _, _, _, _, _, _, _, rfl, rfl, rfl, rfl, rfl, rfl, rfl, rfl, rfl, n, len, wd, up, dn, rfl, e3, e4, hu1, hu2, hd1, hd2, hd3, hz, fun q hq _ => ?_⟩
      rw [e2, if_pos (by omega)]
theorem st_word (i1 i2 : Int32) {labels2 guesses2 lengths2 words2 times2 totals2 sizes2 labels6 guesses6 sizes6 words6 : Nat → Int32} {rowCount2 addedUp2 addedDown2 rows6 up6 down6 : Int32} (hI : INVr labels2 guesses2 lengths2 words2 times2 totals2 sizes2 rowCount2 addedUp2 addedDown2 rows6 labels6 guesses6 sizes6 words6 up6 down6) (thrown6 : Int32) :
    ∃ r guesses2' lengths2' words2' times2' totals2' sizes2' guesses6' sizes6' words6', f_X5_word i1 i2 labels2 guesses2 lengths2 words2 times2 totals2 sizes2 rowCount2 = some (r, guesses2', lengths2', words2', times2', totals2', sizes2') ∧ f_X6_word i1 i2 thrown6 rows6 guesses6 sizes6 words6 = some (r, 0, guesses6', sizes6', words6') ∧ INVr labels2 guesses2' lengths2' words2' times2' totals2' sizes2' rowCount2 addedUp2 addedDown2 rows6 labels6 guesses6' sizes6' words6' up6 down6 := by
  have hI0 := hI
  obtain ⟨rfl, rfl, rfl, rfl, rfl, rfl, rfl, n, len, wd, up, dn, rfl, hw, ht, hu1, hu2, hd1, hd2, hd3, hz, hg⟩ := hI
  obtain ⟨hn, w1, w2, w3, w4⟩ := id hw
  unfold f_X5_word f_X6_word
  simp only [nm, isWord5, within6]
  rcases has_d i1 hn with ⟨p1, p2⟩ | ⟨p1, p2, k, hk, rfl⟩
  · rw [p1, p2]
    exact ⟨_, _, _, _, _, _, _, _, _, _, rfl, rfl, hI0⟩
  · rw [p1, p2]
    simp only [Option.bind_some]
    rw [if_neg b10, if_neg b10]
    rcases wb_d i2 7 (m := 7) rfl with c1 | ⟨c1, w, hw8, rfl⟩
    · rw [if_pos c1, if_pos c1]
      exact ⟨_, _, _, _, _, _, _, _, _, _, rfl, rfl, hI0⟩
    · rw [c1, if_neg b10, if_neg b10]
      obtain ⟨k1, k2⟩ := w3 k hk
      unfold f_X2_isFullRow
      rw [gA_n (by omega) (by decide), gA_n (by omega) (by decide), k1]
      by_cases h6 : len k = 6
      · rw [h6, if_neg (show ¬ nI 6 < 6 by decide), if_pos (show nI 6 = 6 from rfl)]
        simp only [Option.bind_some]
        rw [if_neg b10]
        exact ⟨_, _, _, _, _, _, _, _, _, _, rfl, rfl, hI0⟩
      · rw [if_pos (show nI (len k) < 6 from nI_lt (b := 6) (by omega) (by decide)), if_neg (show ¬ nI (len k) = 6 from fun h => h6 ((nI_eq (b := 6) (by omega) (by decide)).mp h))]
        simp only [Option.bind_some, if_true]
        unfold f_X2_append
        rw [gA_n (by omega) (by decide), gA_n (by omega) (by decide), k1, show (6 : Int32) = nI 6 from rfl, ix (b := 0), ix (b := 0), Nat.mul_comm 6 k, sI_n (by omega) (by decide), sI_n (by omega) (by decide), gA_n (by omega) (by decide), gA_n (by omega) (by decide), k1, nI_1, sI_n (by omega) (by decide), sI_n (by omega) (by decide)]
        obtain ⟨g, t', o', s', e1, e2, e3, e4⟩ := sa_f (labels := labels6) (guesses := guesses6) (lengths := upd sizes6 k (nI (len k + 1))) (words := upd words6 (k * 6 + len k) (nI w)) (n := n) (len := fun q => if q = k then len k + 1 else len q) (wd := fun q => if q = k * 6 + len k then w else wd q) hn w1 (fun q hq => by
          rw [upd_eq]
          by_cases c : q = k
          · simp only [if_pos c]; exact ⟨trivial, by omega⟩
          · simp only [if_neg c]; exact w3 q hq) (fun q j hq hj => by
          rw [upd_eq]
          by_cases c : q * 6 + j = k * 6 + len k
          · simp only [if_pos c]; exact ⟨by omega, trivial⟩
          · simp only [if_neg c]
            refine w4 q j hq ?_
            by_cases c2 : q = k
            · simp only [if_pos c2] at hj; subst c2; omega
            · simp only [if_neg c2] at hj; exact hj) times2 totals2 sizes2
        rw [e1, fo_f guesses6 e2]
        simp only [Option.bind_some]
        rw [gA_n (by omega) (by decide), gA_n (by omega) (by decide)]
        refine ⟨_, _, _, _, _, _, _, _, _, _, rfl, rfl, rfl, rfl, rfl, rfl, rfl, rfl, rfl, n, _, _, up, dn, rfl, e3, e4, hu1, hu2, hd1, hd2, hd3, fun q a b => ?_, fun q hq _ => ?_⟩
        · show upd sizes6 k (nI (len k + 1)) q = 0
          rw [upd_eq, if_neg (show ¬ q = k by omega)]; exact hz q a b
        · show g q = (-1)
          rw [e2, if_pos (by omega)]
theorem st_addition (i1 i2 : Int32) {labels2 guesses2 lengths2 words2 times2 totals2 sizes2 labels6 guesses6 sizes6 words6 : Nat → Int32} {rowCount2 addedUp2 addedDown2 rows6 up6 down6 : Int32} (hI : INVr labels2 guesses2 lengths2 words2 times2 totals2 sizes2 rowCount2 addedUp2 addedDown2 rows6 labels6 guesses6 sizes6 words6 up6 down6) (thrown6 : Int32) :
    ∃ r guesses2' times2' totals2' sizes2' addedUp2' addedDown2' guesses6' up6' down6', f_X5_addition i1 i2 labels2 guesses2 lengths2 words2 times2 totals2 sizes2 rowCount2 addedUp2 addedDown2 = some (r, guesses2', times2', totals2', sizes2', addedUp2', addedDown2') ∧ f_X6_addition i1 i2 thrown6 guesses6 up6 down6 = some (r, 0, guesses6', up6', down6') ∧ INVr labels2 guesses2' lengths2 words2 times2' totals2' sizes2' rowCount2 addedUp2' addedDown2' rows6 labels6 guesses6' sizes6 words6 up6' down6' := by
  have hI0 := hI
  obtain ⟨rfl, rfl, rfl, rfl, rfl, rfl, rfl, n, len, wd, up, dn, rfl, hw, ht, hu1, hu2, hd1, hd2, hd3, hz, hg⟩ := hI
  obtain ⟨hn, w1, w2, w3, w4⟩ := id hw
  unfold f_X5_addition f_X6_addition
  simp only [nm, within5, within6, Option.bind_some]
  rcases wb_d i1 3 (m := 3) rfl with c1 | ⟨c1, u, hu, rfl⟩
  · rw [if_pos c1, if_pos c1]
    exact ⟨_, _, _, _, _, _, _, _, _, _, rfl, rfl, hI0⟩
  · rw [c1, if_neg b10, if_neg b10]
    by_cases c2 : wb i2 1 3 = 0
    · rw [if_pos c2, if_pos c2]
      exact ⟨_, _, _, _, _, _, _, _, _, _, rfl, rfl, hI0⟩
    · rw [if_neg c2, if_neg c2]
      have hd : ∃ d, 1 ≤ d ∧ d ≤ 3 ∧ i2 = nI d := by
        unfold wb at c2
        by_cases q1 : i2 < 1
        · rw [if_pos q1] at c2; exact absurd rfl c2
        · rw [if_neg q1] at c2
          by_cases q2 : 3 < i2
          · rw [if_pos q2] at c2; exact absurd rfl c2
          · have e1 : ¬ i2.toInt < 1 := fun q => q1 (Int32.lt_iff_toInt_lt.mpr q)
            have e3 : ¬ 3 < i2.toInt := fun q => q2 (Int32.lt_iff_toInt_lt.mpr q)
            obtain ⟨d, hd, rfl⟩ := nI_of2 (x := i2) (M := 3) (n := 3) rfl (fun q => e1 (by have : i2.toInt < 0 := Int32.lt_iff_toInt_lt.mp q; omega)) (Int32.le_iff_toInt_le.mpr (by show i2.toInt ≤ 3; omega))
            rw [nI_toInt (by omega)] at e1
            exact ⟨d, by omega, hd, rfl⟩
      obtain ⟨d, d1, d2, rfl⟩ := hd
      unfold f_X2_setAddition
      simp only [nm]
      obtain ⟨g, t', o', s', e1, e2, e3, e4⟩ := sa_f (labels := labels6) (guesses := guesses6) (lengths := sizes6) (words := words6) (n := n) (len := len) (wd := wd) hn w1 w3 w4 times2 totals2 sizes2
      rw [e1, fo_f guesses6 e2]
      simp only [Option.bind_some]
      refine ⟨_, _, _, _, _, _, _, _, _, _, rfl, rfl, rfl, rfl, rfl, rfl, rfl, rfl, rfl, n, len, wd, u, d, rfl, e3, e4, rfl, hu, rfl, d1, d2, hz, fun q hq _ => ?_⟩
      rw [e2, if_pos (by omega)]
theorem st_guess (i1 : Int32) {labels2 guesses2 lengths2 words2 times2 totals2 sizes2 labels6 guesses6 sizes6 words6 : Nat → Int32} {rowCount2 addedUp2 addedDown2 rows6 up6 down6 : Int32} (hI : INVr labels2 guesses2 lengths2 words2 times2 totals2 sizes2 rowCount2 addedUp2 addedDown2 rows6 labels6 guesses6 sizes6 words6 up6 down6) (thrown6 : Int32) :
    ∃ r, f_X5_guess i1 guesses2 rowCount2 = some r ∧ f_X6_guess i1 thrown6 rows6 guesses6 = some (r, 0) := by
  obtain ⟨rfl, rfl, rfl, rfl, rfl, rfl, rfl, n, len, wd, up, dn, rfl, hw, ht, hu1, hu2, hd1, hd2, hd3, hz, hg⟩ := hI
  have hn := hw.1
  unfold f_X5_guess f_X6_guess
  simp only [nm]
  rcases has_d i1 hn with ⟨p1, p2⟩ | ⟨p1, p2, k, hk, rfl⟩
  · rw [p1, p2]
    exact ⟨_, rfl, rfl⟩
  · rw [p1, p2]
    simp only [Option.bind_some]
    rw [if_neg b10, if_neg b10]
    unfold f_X2_guessOf
    rw [gA_n (by omega) (by decide), gA_n (by omega) (by decide)]
    exact ⟨_, rfl, rfl⟩
theorem st_counted (i1 i2 : Int32) {labels2 guesses2 lengths2 words2 times2 totals2 sizes2 labels6 guesses6 sizes6 words6 : Nat → Int32} {rowCount2 addedUp2 addedDown2 rows6 up6 down6 : Int32} (hI : INVr labels2 guesses2 lengths2 words2 times2 totals2 sizes2 rowCount2 addedUp2 addedDown2 rows6 labels6 guesses6 sizes6 words6 up6 down6) (thrown6 : Int32) :
    ∃ r, f_X5_counted i1 i2 times2 totals2 sizes2 = some r ∧ f_X6_counted i1 i2 thrown6 rows6 labels6 guesses6 sizes6 words6 = some (r, 0) := by
  obtain ⟨rfl, rfl, rfl, rfl, rfl, rfl, rfl, n, len, wd, up, dn, rfl, hw, ⟨ht1, ht2, ht3⟩, hu1, hu2, hd1, hd2, hd3, hz, hg⟩ := hI
  have hn := hw.1
  unfold f_X5_counted f_X6_counted
  simp only [nm, isLabel5, isWord5, within6, Option.bind_some]
  rcases wb_d i1 3 (m := 3) rfl with c1 | ⟨c1, l, hl, rfl⟩
  · rw [if_pos c1, if_pos c1]
    exact ⟨_, rfl, rfl⟩
  · rw [c1, if_neg b10, if_neg b10]
    have n8 : ∀ x : Int32, x < 0 ∨ nI 10 ≤ x → ¬ x = 8 ∧ ¬ x = 9 := fun x h => by
      refine ⟨fun e => ?_, fun e => ?_⟩ <;> subst e <;> rcases h with h | h <;> exact absurd h (by decide)
    have out : (i2 < 0 ∨ nI 10 ≤ i2) → wb i2 0 7 = 0 ∧ wb i2 0 9 = 0 := fun h => by
      rcases h with h | h
      · exact ⟨wb_neg h, wb_neg h⟩
      · refine ⟨wb_big (m := 8) rfl (by decide) ?_, wb_big (m := 10) rfl (by decide) h⟩
        have e1 := Int32.le_iff_toInt_le.mp h
        exact Int32.le_iff_toInt_le.mpr (Int.le_trans (by decide) e1)
    rcases pk_ix i2 (n := 10) (by decide) with h | h | ⟨k, hk, rfl⟩
    · rw [(out (Or.inl h)).1, (out (Or.inl h)).2, if_pos rfl, if_pos rfl, if_neg (n8 _ (Or.inl h)).1, if_neg (n8 _ (Or.inl h)).2]
      exact ⟨_, rfl, rfl⟩
    · rw [(out (Or.inr h)).1, (out (Or.inr h)).2, if_pos rfl, if_pos rfl, if_neg (n8 _ (Or.inr h)).1, if_neg (n8 _ (Or.inr h)).2]
      exact ⟨_, rfl, rfl⟩
    · rw [wb_i (M := 9) (m := 9) rfl (by decide) (by omega), if_neg b10]
      have q9 : (nI k = 9) ↔ k = 9 := nI_eq (b := 9) (by omega) (by decide)
      have q8 : (nI k = 8) ↔ k = 8 := nI_eq (b := 8) (by omega) (by decide)
      by_cases k9 : k = 9
      · subst k9
        rw [wb_big (x := nI 9) (M := 7) (m := 8) rfl (by decide) (by decide), if_pos rfl, if_neg (show ¬ nI 9 = 8 by decide), if_pos (show nI 9 = 9 from rfl), if_pos (show nI 9 = 9 from rfl), ro_f hw]
        unfold f_X2_rowsIn
        rw [gA_n (by omega) (by decide), ht3 l (by omega)]
        exact ⟨_, rfl, rfl⟩
      · by_cases k8 : k = 8
        · subst k8
          rw [wb_big (x := nI 8) (M := 7) (m := 8) rfl (by decide) (by decide), if_pos rfl, if_pos (show nI 8 = 8 from rfl), if_neg (show ¬ nI 8 = 9 by decide), if_pos (show nI 8 = 8 from rfl), ti_f hw, fA_all]
          unfold f_X2_wordsIn
          rw [gA_n (by omega) (by decide), ht2 l (by omega)]
          exact ⟨_, rfl, rfl⟩
        · rw [wb_i (M := 7) (m := 7) rfl (by decide) (by omega), if_neg b10, if_neg (fun q => k9 (q9.mp q)), if_neg (fun q => k8 (q8.mp q)), ti_f hw, fA_w hw l (by omega)]
          unfold f_X2_timesIn
          rw [show (8 : Int32) = nI 8 from rfl, ix (b := 0), gA_n (by omega) (by decide), ht1 l (by omega) k (by omega)]
          exact ⟨_, rfl, rfl⟩
