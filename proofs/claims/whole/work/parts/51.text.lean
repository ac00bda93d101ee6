/-! PURE: limits of numbers; the text and its tables -/
def wb (x a b : Int32) : Int32 := if x < a then 0 else if b < x then 0 else 1
theorem wb_01 (x a b : Int32) : wb x a b = 0 ∨ wb x a b = 1 := by
  unfold wb
  by_cases h : x < a
  · rw [if_pos h]; exact Or.inl rfl
  · rw [if_neg h]
    by_cases h2 : b < x
    · rw [if_pos h2]; exact Or.inl rfl
    · rw [if_neg h2]; exact Or.inr rfl
theorem within5 (x a b : Int32) : f_X5_isWithin x a b = some (wb x a b) := by
  unfold f_X5_isWithin wb
  by_cases h : x < a
  · rw [if_pos h, if_pos h]
  · rw [if_neg h, if_neg h]
    by_cases h2 : b < x
    · rw [if_pos h2, if_pos h2]
    · rw [if_neg h2, if_neg h2]
theorem within6 (x a b : Int32) : f_X6_within x a b = some (wb x a b) := by
  unfold f_X6_within wb
  by_cases h : x < a
  · rw [if_pos h, if_pos h]
  · rw [if_neg h, if_neg h]
    by_cases h2 : b < x
    · rw [if_pos h2, if_pos h2]
    · rw [if_neg h2, if_neg h2]
theorem bz_p {β : Type} {r : Int32} {k : Option β} (h : r = 0 ∨ r = 1) : bz r k = k := by
  unfold bz
  rw [if_pos h]
theorem isWord5 (x : Int32) : f_X5_isWord x = some (wb x 0 7) := by
  unfold f_X5_isWord
  rw [within5]
  exact bz_p (wb_01 _ _ _)
theorem isLabel5 (x : Int32) : f_X5_isLabel x = some (wb x 0 3) := by
  unfold f_X5_isLabel
  rw [within5]
  exact bz_p (wb_01 _ _ _)
theorem isSide5 (x : Int32) : f_X5_isSide x = some (wb x 0 1) := by
  unfold f_X5_isSide
  rw [within5]
  exact bz_p (wb_01 _ _ _)
/-- within 0 .. m: then a number -/
theorem wb_d (x M : Int32) {m : Nat} (hM : M.toInt = m) : wb x 0 M = 0 ∨ wb x 0 M = 1 ∧ ∃ k, k ≤ m ∧ x = nI k := by
  unfold wb
  by_cases h : x < 0
  · rw [if_pos h]; exact Or.inl rfl
  · rw [if_neg h]
    by_cases h2 : M < x
    · rw [if_pos h2]; exact Or.inl rfl
    · rw [if_neg h2]
      refine Or.inr ⟨rfl, nI_of2 hM h ?_⟩
      have e1 : ¬ M.toInt < x.toInt := fun q => h2 (Int32.lt_iff_toInt_lt.mpr q)
      exact Int32.le_iff_toInt_le.mpr (by omega)
theorem wb_i {m k : Nat} {M : Int32} (hM : M = nI m) (hm : m < 2 ^ 31) (h : k ≤ m) : wb (nI k) 0 M = 1 := by
  unfold wb
  rw [if_neg (nI_pos (by omega)), if_neg (by rw [hM]; exact nI_nlt h hm)]
theorem b10 : ¬ (1 : Int32) = 0 := by decide
/-- sums of m terms from i on -/
def sg (g : Nat → Nat) (i : Nat) : Nat → Nat
  | 0 => 0
  | m + 1 => g i + sg g (i + 1) m
theorem sg_le {g : Nat → Nat} {b : Nat} : ∀ (m i : Nat), (∀ w, i ≤ w → w < i + m → g w ≤ b) → sg g i m ≤ m * b := by
  intro m
  induction m with
  | zero => intro i _; exact Nat.zero_le _
  | succ m ih =>
    intro i h
    have h1 := h i (Nat.le_refl i) (by omega)
    have h2 := ih (i + 1) (fun w a c => h w (by omega) (by omega))
    rw [Nat.add_mul]
    show g i + sg g (i + 1) m ≤ _
    omega
theorem sg_full {g : Nat → Nat} : ∀ (m i : Nat), (∀ w, g w ≤ 1) → sg g i m = m → ∀ w, i ≤ w → w < i + m → g w = 1 := by
  intro m
  induction m with
  | zero => intro i _ _ w h1 h2; omega
  | succ m ih =>
    intro i h e w h1 h2
    have h3 : sg g (i + 1) m ≤ m * 1 := sg_le m (i + 1) (fun w _ _ => h w)
    have e : g i + sg g (i + 1) m = m + 1 := e
    have h4 := h i
    by_cases hw : w = i
    · subst hw; omega
    · exact ih (i + 1) h (by omega) w (by omega) (by omega)
theorem sg_pos {g : Nat → Nat} : ∀ (m i w : Nat), i ≤ w → w < i + m → 0 < g w → 0 < sg g i m := by
  intro m
  induction m with
  | zero => intro i w h1 h2; omega
  | succ m ih =>
    intro i w h1 h2 h3
    show 0 < g i + sg g (i + 1) m
    by_cases hw : w = i
    · subst hw; omega
    · have := ih (i + 1) w (by omega) (by omega) h3
      omega
theorem sg_ex {g : Nat → Nat} : ∀ (m i : Nat), 0 < sg g i m → ∃ w, i ≤ w ∧ w < i + m ∧ 0 < g w := by
  intro m
  induction m with
  | zero => intro i h; exact absurd h (Nat.lt_irrefl 0)
  | succ m ih =>
    intro i h
    have h : 0 < g i + sg g (i + 1) m := h
    by_cases hw : 0 < g i
    · exact ⟨i, Nat.le_refl i, by omega, hw⟩
    · obtain ⟨w, a, b, c⟩ := ih (i + 1) (by omega)
      exact ⟨w, by omega, by omega, c⟩
theorem sg_add {g f : Nat → Nat} : ∀ (m i : Nat), sg (fun w => g w + f w) i m = sg g i m + sg f i m := by
  intro m
  induction m with
  | zero => intro i; rfl
  | succ m ih =>
    intro i
    show g i + f i + sg _ (i + 1) m = g i + sg g (i + 1) m + (f i + sg f (i + 1) m)
    rw [ih]
    omega
theorem sg_congr {g f : Nat → Nat} : ∀ (m i : Nat), (∀ w, i ≤ w → w < i + m → g w = f w) → sg g i m = sg f i m := by
  intro m
  induction m with
  | zero => intro i _; rfl
  | succ m ih =>
    intro i h
    show g i + sg g (i + 1) m = f i + sg f (i + 1) m
    rw [h i (Nat.le_refl i) (by omega), ih (i + 1) (fun w a c => h w (by omega) (by omega))]
theorem sg_zero : ∀ (m i : Nat), sg (fun _ => 0) i m = 0 := by
  intro m
  induction m with
  | zero => intro i; rfl
  | succ m ih => intro i; show 0 + sg _ (i + 1) m = 0; rw [ih]
theorem sg_one {k : Nat} : ∀ (m i : Nat), i ≤ k → k < i + m → sg (fun w => if k = w then 1 else 0) i m = 1 := by
  intro m
  induction m with
  | zero => intro i h1 h2; omega
  | succ m ih =>
    intro i h1 h2
    show (if k = i then 1 else 0) + sg _ (i + 1) m = 1
    by_cases h : k = i
    · rw [if_pos h, sg_congr (f := fun _ => 0) m (i + 1) (fun w a _ => if_neg (by omega)), sg_zero]
    · rw [if_neg h, ih (i + 1) (by omega) (by omega)]
theorem updL_eq (f : Nat → Int64) (k w : Nat) (x : Int64) : vp_updL f k x w = if w = k then x else f w := rfl
theorem upd_eq (f : Nat → Int32) (k w : Nat) (x : Int32) : upd f k x w = if w = k then x else f w := rfl
/-- all of an array becomes one number -/
theorem setAll_L {N : Nat} (hN : N < 2 ^ 31) (x : Int32) : ∀ (m i n : Nat) (f : Nat → Int32), i + m = N → m < n → ∃ f', f_X5_setAll_L2 x N n (nI i) f = some (nI N, f') ∧ ∀ w, f' w = if i ≤ w ∧ w < N then x else f w := by
  intro m
  induction m with
  | zero =>
    intro i n f h hn
    obtain ⟨n, rfl⟩ : ∃ q, n = q + 1 := ⟨n - 1, by omega⟩
    have e : i = N := by omega
    subst e
    refine ⟨f, ?_, fun w => by rw [if_neg (by omega)]⟩
    rw [f_X5_setAll_L2.eq_2, if_pos (show Int32.ofNat i ≤ nI i from nI_le (Nat.le_refl i) hN)]
  | succ m ih =>
    intro i n f h hn
    obtain ⟨n, rfl⟩ : ∃ q, n = q + 1 := ⟨n - 1, by omega⟩
    obtain ⟨f', e1, e2⟩ := ih (i + 1) n (upd f i x) (by omega) (by omega)
    refine ⟨f', ?_, fun w => ?_⟩
    · rw [f_X5_setAll_L2.eq_2, if_neg (show ¬ Int32.ofNat N ≤ nI i from nI_ge (by omega) hN), sI_n (by omega) hN]
      simp only [nm, nI_1]
      exact e1
    · rw [e2, upd_eq]
      by_cases h1 : i + 1 ≤ w ∧ w < N
      · rw [if_pos h1, if_pos (by omega)]
      · rw [if_neg h1]
        by_cases h2 : w = i
        · rw [if_pos h2, if_pos (by omega)]
        · rw [if_neg h2, if_neg (by omega)]
theorem setAll_f {N : Nat} (hN : N < 2000) (f : Nat → Int32) (x : Int32) : ∃ f', f_X5_setAll N f x = some f' ∧ ∀ w, f' w = if w < N then x else f w := by
  obtain ⟨f', e1, e2⟩ := setAll_L (N := N) (by omega) x N 0 FU f (by omega) (by have := FU_ge; omega)
  refine ⟨f', ?_, fun w => by rw [e2]; simp⟩
  unfold f_X5_setAll
  simp only [nm]
  rw [show (0 : Int32) = nI 0 from rfl, e1]
  rfl
