/-! PURE: text, next, likely: class and reference alike -/
theorem wbm (x M : Int32) (hM : 0 ≤ M.toInt) : wb x (-1) M = if x = (-1) then 1 else wb x 0 M := by
  unfold wb
  have e1 : (-1 : Int32).toInt = -1 := rfl
  have e0 : (0 : Int32).toInt = 0 := rfl
  by_cases h : x = (-1)
  · subst h
    rw [if_pos rfl, if_neg (by decide), if_neg (by rw [Int32.lt_iff_toInt_lt, e1]; omega)]
  · have hx : x.toInt ≠ -1 := fun q => h (Int32.toInt_inj.mp (by rw [q]; rfl))
    rw [if_neg h]
    by_cases h2 : x < (-1)
    · rw [if_pos h2, if_pos (by rw [Int32.lt_iff_toInt_lt, e1] at h2; rw [Int32.lt_iff_toInt_lt, e0]; omega)]
    · rw [if_neg h2, if_neg (show ¬ x < 0 by rw [Int32.lt_iff_toInt_lt, e1] at h2; rw [Int32.lt_iff_toInt_lt, e0]; omega)]
theorem c6_2 : ∀ (m i n : Nat) (b : Nat → Int32), i + m = 8 → m < n → ∃ b', f_X6_count_L2 n (nI i) b = some (nI 8, b') ∧ ∀ w, w < 8 → b' w = if i ≤ w then 0 else b w := by
  intro m
  induction m with
  | zero =>
    intro i n a h hn
    obtain ⟨n, rfl⟩ : ∃ q, n = q + 1 := ⟨n - 1, by omega⟩
    have e : i = 8 := by omega
    subst e
    refine ⟨a, ?_, fun w hw => by rw [if_neg (by omega)]⟩
    rw [f_X6_count_L2.eq_2, if_pos (show (8 : Int32) ≤ nI 8 from nI_le (Nat.le_refl 8) (by decide))]
  | succ m ih =>
    intro i n a h hn
    obtain ⟨n, rfl⟩ : ∃ q, n = q + 1 := ⟨n - 1, by omega⟩
    obtain ⟨a', e1, e2⟩ := ih (i + 1) n (upd a i 0) (by omega) (by omega)
    refine ⟨a', ?_, fun w hw => ?_⟩
    · rw [f_X6_count_L2.eq_2, if_neg (show ¬ (8 : Int32) ≤ nI i from nI_ge (b := 8) (by omega) (by decide)), sI_n (by omega) (by decide)]
      simp only [nm, nI_1]
      exact e1
    · rw [e2 w hw, upd_eq]
      by_cases h1 : i + 1 ≤ w
      · rw [if_pos h1, if_pos (by omega)]
      · rw [if_neg h1]
        by_cases h2 : w = i
        · rw [if_pos h2, if_pos (by omega)]
        · rw [if_neg h2, if_neg (by omega)]
/-- how often w stands behind -/
def bT (text : Nat → Int32) (t u : Int32) (L w : Nat) : Nat := bf text t u w 1 (L - 1)
theorem bT_le {text : Nat → Int32} {t u : Int32} {L : Nat} (hL : L ≤ 60) (w : Nat) : bT text t u L w ≤ 60 := by
  have := bf_le text t u w (L - 1) 1
  unfold bT
  omega
theorem count3 {text : Nat → Int32} {L : Nat} (hT : wfT text L) (t u : Int32) (b : Nat → Int32) : ∃ b', f_X3_countBehind t u text b (nI L) = some b' ∧ ∀ w, w < 8 → b' w = nI (bT text t u L w) := by
  have hF := FU_ge
  have hL := hT.1
  obtain ⟨b1, e1, e2⟩ := setAll_f (N := 8) (by decide) b 0
  obtain ⟨z, b2, e3, e4⟩ := cb_10 hT t u (L - 1) 1 FU b1 (fun _ => 0) (by omega) (by omega) rfl (by omega) (fun w hw => by rw [e2, if_pos hw]; rfl)
  refine ⟨b2, ?_, fun w hw => by rw [e4 w hw, Nat.zero_add]; rfl⟩
  unfold f_X3_countBehind
  rw [e1]
  simp only [Option.bind_some, nm]
  rw [show (1 : Int32) = nI 1 from rfl, e3]
  rfl
theorem bT_sum {text : Nat → Int32} {L : Nat} (hT : wfT text L) (t u : Int32) : sg (bT text t u L) 0 8 = hf text t u 1 (L - 1) := by
  rcases Nat.eq_zero_or_pos L with rfl | h
  · exact sg_zero 8 0
  · exact bf_sum hT t u (L - 1) 1 (by omega)
theorem count6 {text : Nat → Int32} {L : Nat} (hT : wfT text L) (t u : Int32) (b : Nat → Int32) : ∃ b', f_X6_count t u text (nI L) b = some (nI (sg (bT text t u L) 0 8), b') ∧ ∀ w, w < 8 → b' w = nI (bT text t u L w) := by
  have hF := FU_ge
  have hL := hT.1
  obtain ⟨b1, e1, e2⟩ := c6_2 8 0 FU b (by omega) (by omega)
  have hb1 : ∀ w, w < 8 → b1 w = nI ((fun _ => 0) w) := fun w hw => by rw [e2 w hw, if_pos (Nat.zero_le w)]; rfl
  unfold f_X6_count
  simp only [nm]
  rw [show (0 : Int32) = nI 0 from rfl, e1, bT_sum hT]
  simp only [Option.bind_some]
  by_cases ht : t = (-1)
  · rw [if_pos ht]
    obtain ⟨z, b2, e3, e4⟩ := c6_35 hT t u (L - 1) 1 FU 0 b1 (fun _ => 0) (by omega) (fun h => absurd ht h) (by omega) rfl (by omega) hb1
    refine ⟨b2, ?_, fun w hw => by rw [e4 w hw, Nat.zero_add]; rfl⟩
    rw [show (1 : Int32) = nI 1 from rfl, e3]
    simp only [Option.bind_some, Nat.zero_add]
  · rw [if_neg ht]
    obtain ⟨z, b2, e3, e4⟩ := c6_35 hT t u (L - 2) 2 FU 0 b1 (fun _ => 0) (by omega) (fun _ => by omega) (by omega) rfl (by omega) hb1
    have h1 : hitb text t u 1 = false := by unfold hitb; rw [decide_eq_false ht, decide_eq_false (show ¬ 2 ≤ 1 by omega)]; simp
    have q1 : hf text t u 1 (L - 1) = hf text t u 2 (L - 2) := by
      by_cases h2 : 2 ≤ L
      · obtain ⟨k, rfl⟩ : ∃ k, L = k + 2 := ⟨L - 2, by omega⟩
        show (if hitb text t u 1 = true then 1 else 0) + hf text t u 2 k = hf text t u 2 k
        rw [h1]
        simp
      · rw [show L - 1 = 0 by omega, show L - 2 = 0 by omega]; rfl
    have q2 : ∀ w, bT text t u L w = bf text t u w 2 (L - 2) := fun w => by
      unfold bT
      by_cases h2 : 2 ≤ L
      · obtain ⟨k, rfl⟩ : ∃ k, L = k + 2 := ⟨L - 2, by omega⟩
        show (if hitb text t u 1 = true ∧ text 1 = nI w then 1 else 0) + bf text t u w 2 k = bf text t u w 2 k
        rw [h1]
        simp
      · rw [show L - 1 = 0 by omega, show L - 2 = 0 by omega]; rfl
    refine ⟨b2, ?_, fun w hw => by rw [e4 w hw, Nat.zero_add, q2]⟩
    rw [show (2 : Int32) = nI 2 from rfl, e3, q1]
    simp only [Option.bind_some, Nat.zero_add]
theorem tables {text : Nat → Int32} {L : Nat} (hT : wfT text L) (t u : Int32) (hu : u = (-1) → t = (-1)) (b b' : Nat → Int32) (a a' : Nat → Int64) (o o' : Int64) : ∃ (U : Nat → Nat) (O : Nat) (b3 b6 : Nat → Int32) (a3 a6 : Nat → Int64),
    (∀ w, w < 8 → 0 < U w ∧ U w < 2 ^ 63) ∧ 0 < O ∧ O < 2 ^ 63 ∧ f_X3_fill t u text b a o (nI L) = some (b3, a3, lN O) ∧ (∀ w, w < 8 → a3 w = lN (U w)) ∧ f_X6_table t u text (nI L) b' a' o' = some (b6, a6, lN O) ∧ ∀ w, w < 8 → a6 w = lN (U w) := by
  have hL := hT.1
  obtain ⟨p1, p2, p3⟩ := first3 hT a o
  obtain ⟨r1, r2, r3⟩ := first6 hT a' o'
  have hU1 : ∀ w, w < 8 → 0 < U1 text L w ∧ U1 text L w ≤ 68 := fun w _ => by
    have := cf_le text w L 0
    unfold U1
    omega
  unfold f_X3_fill f_X6_table
  rw [p2, r2]
  simp only [Option.bind_some]
  by_cases cu : u = (-1)
  · have ct := hu cu
    rw [if_pos cu, if_pos ct, if_pos cu, if_pos ct]
    exact ⟨U1 text L, L + 8, _, _, _, _, fun w hw => by have := hU1 w hw; omega, by omega, by omega, rfl, p3, rfl, r3⟩
  · rw [if_neg cu, if_neg cu]
    obtain ⟨b1, e1, e2⟩ := count3 hT (-1) u b
    obtain ⟨b2, e3, e4⟩ := count6 hT (-1) u b'
    have hB1 : ∀ w, w < 8 → b1 w = nI (bT text (-1) u L w) ∧ bT text (-1) u L w ≤ 60 := fun w hw => ⟨e2 w hw, bT_le hL w⟩
    have hB2 : ∀ w, w < 8 → b2 w = nI (bT text (-1) u L w) ∧ bT text (-1) u L w ≤ 60 := fun w hw => ⟨e4 w hw, bT_le hL w⟩
    obtain ⟨s1, s2, s3⟩ := above3 hB1 p3 (L + 8)
    obtain ⟨t1, t2, t3⟩ := above6t hB2 r3 (L + 8)
    obtain ⟨g1, g2, g3⟩ := aU_b (u := 68) (fun w hw => bT_le (text := text) (t := (-1)) (u := u) hL w) hU1 (by decide) (show 0 < L + 8 ∧ L + 8 ≤ 68 by omega)
    rw [e1, e3]
    simp only [Option.bind_some]
    rw [s2, t2]
    simp only [Option.bind_some]
    by_cases ct : t = (-1)
    · rw [if_pos ct, if_pos ct]
      exact ⟨aU (bT text (-1) u L) (U1 text L), aO (bT text (-1) u L) (U1 text L) (L + 8), _, _, _, _, fun w hw => ⟨(g1 w hw).1, Nat.lt_of_le_of_lt (g1 w hw).2 (by decide)⟩, g2, Nat.lt_of_le_of_lt g3 (by decide), rfl, s3, rfl, t3⟩
    · rw [if_neg ct, if_neg ct]
      obtain ⟨b3, e5, e6⟩ := count3 hT t u b1
      obtain ⟨b4, e7, e8⟩ := count6 hT t u b2
      have hB3 : ∀ w, w < 8 → b3 w = nI (bT text t u L w) ∧ bT text t u L w ≤ 60 := fun w hw => ⟨e6 w hw, bT_le hL w⟩
      have hB4 : ∀ w, w < 8 → b4 w = nI (bT text t u L w) ∧ bT text t u L w ≤ 60 := fun w hw => ⟨e8 w hw, bT_le hL w⟩
      obtain ⟨v1, v2, v3⟩ := above3 hB3 s3 (aO (bT text (-1) u L) (U1 text L) (L + 8))
      obtain ⟨x1, x2, x3⟩ := above6t hB4 t3 (aO (bT text (-1) u L) (U1 text L) (L + 8))
      obtain ⟨f1, f2, f3⟩ := aU_b (u := 8000 * 68) (fun w hw => bT_le (text := text) (t := t) (u := u) hL w) g1 (by decide) ⟨g2, g3⟩
      rw [e5, e7]
      simp only [Option.bind_some]
      rw [v2, x2]
      simp only [Option.bind_some]
      exact ⟨aU (bT text t u L) (aU (bT text (-1) u L) (U1 text L)), aO (bT text t u L) (aU (bT text (-1) u L) (U1 text L)) (aO (bT text (-1) u L) (U1 text L) (L + 8)), _, _, _, _, fun w hw => ⟨(f1 w hw).1, Nat.lt_of_le_of_lt (f1 w hw).2 (by decide)⟩, f2, Nat.lt_of_le_of_lt f3 (by decide), rfl, v3, rfl, x3⟩
def tb (t u : Int32) : Int32 := if u = (-1) then (if t = (-1) then 1 else 0) else if wb u 0 7 = 0 then 0 else if t = (-1) then 1 else if wb t 0 7 = 0 then 0 else 1
theorem isTable5 (t u : Int32) : f_X5_isTable t u = some (tb t u) := by
  unfold f_X5_isTable tb
  simp only [isWord5, Option.bind_some]
  repeat' split
  all_goals rfl
theorem isTable6 (t u : Int32) : f_X6_isTable t u = some (tb t u) := by
  unfold f_X6_isTable tb
  simp only [within6, Option.bind_some, wbm _ _ (show (0 : Int) ≤ (7 : Int32).toInt by decide)]
  by_cases c1 : t = (-1)
  · by_cases c2 : u = (-1)
    · simp [c1, c2]
    · by_cases c3 : wb u 0 7 = 0 <;> simp [c1, c2, c3]
  · by_cases c2 : u = (-1)
    · by_cases c4 : wb t 0 7 = 0 <;> simp [c1, c2, c4]
    · by_cases c3 : wb u 0 7 = 0 <;> by_cases c4 : wb t 0 7 = 0 <;> simp [c1, c2, c3, c4]
theorem tb_u {t u : Int32} (h : ¬ tb t u = 0) : u = (-1) → t = (-1) := by
  intro hu
  unfold tb at h
  rw [if_pos hu] at h
  by_cases ht : t = (-1)
  · exact ht
  · rw [if_neg ht] at h; exact absurd rfl h
/-- what holds of the text between calls -/
def INVt (text3 : Nat → Int32) (textLength3 : Int32) (told6 : Nat → Int32) (length6 : Int32) : Prop := told6 = text3 ∧ length6 = textLength3 ∧ ∃ L, wfT text3 L ∧ textLength3 = nI L
theorem st_next (i1 i2 i3 i4 : Int32) {text3 told6 : Nat → Int32} {textLength3 length6 : Int32} (hI : INVt text3 textLength3 told6 length6) (behind3 behind6 : Nat → Int32) (uppers3 shares6 : Nat → Int64) (lower3 over6 : Int64) (thrown6 : Int32) :
    ∃ r b3 a3 o3 b6 a6 o6, f_X5_next i1 i2 i3 i4 text3 behind3 uppers3 lower3 textLength3 = some (r, b3, a3, o3) ∧ f_X6_next i1 i2 i3 i4 thrown6 told6 length6 behind6 shares6 over6 = some (r, 0, b6, a6, o6) := by
  obtain ⟨rfl, rfl, L, hT, rfl⟩ := hI
  unfold f_X5_next f_X6_next
  simp only [nm, isTable5, isTable6, isWord5, isSide5, within6, Option.bind_some]
  by_cases c1 : tb i1 i2 = 0
  · rw [if_pos c1, if_pos c1]
    exact ⟨_, _, _, _, _, _, _, rfl, rfl⟩
  · rw [if_neg c1, if_neg c1]
    rcases wb_d i3 7 (m := 7) rfl with c2 | ⟨c2, k, hk, rfl⟩
    · rw [if_pos c2, if_pos c2]
      exact ⟨_, _, _, _, _, _, _, rfl, rfl⟩
    · rw [c2, if_neg b10, if_neg b10]
      by_cases c3 : wb i4 0 1 = 0
      · rw [if_pos c3, if_pos c3]
        exact ⟨_, _, _, _, _, _, _, rfl, rfl⟩
      · rw [if_neg c3, if_neg c3]
        obtain ⟨U, O, b3, b6, a3, a6, h1, h2, h3, h4, h5, h6, h7⟩ := tables hT i1 i2 (tb_u c1) behind3 behind6 uppers3 shares6 lower3 over6
        rw [h4, h6]
        simp only [Option.bind_some]
        unfold f_X3_upperOf f_X3_lowerOfAll
        rw [gA_n (show k < 8 by omega) (by decide), gA_n (show k < 8 by omega) (by decide), h5 k (by omega), h7 k (by omega)]
        simp only [Option.bind_some]
        rw [side0 (h1 k (by omega)).2 h2 h3, side6 (h1 k (by omega)).2 h2 h3]
        exact ⟨_, _, _, _, _, _, _, rfl, rfl⟩
theorem gr_L {a b : Nat → Int64} (hab : ∀ w, w < 8 → a w = b w) : ∀ (m i n g : Nat), i + m = 8 → m < n → g < 8 → ∃ g', f_X3_greatest_L4 a n (nI i) (nI g) = some (nI 8, g') ∧ f_X6_likely_L27 b n (nI i) (nI g) = some (nI 8, g') := by
  intro m
  induction m with
  | zero =>
    intro i n g h hn hg
    obtain ⟨n, rfl⟩ : ∃ q, n = q + 1 := ⟨n - 1, by omega⟩
    have e : i = 8 := by omega
    subst e
    refine ⟨nI g, ?_, ?_⟩
    · rw [f_X3_greatest_L4.eq_2, if_pos (show (8 : Int32) ≤ nI 8 from nI_le (Nat.le_refl 8) (by decide))]
    · rw [f_X6_likely_L27.eq_2, if_pos (show (8 : Int32) ≤ nI 8 from nI_le (Nat.le_refl 8) (by decide))]
  | succ m ih =>
    intro i n g h hn hg
    obtain ⟨n, rfl⟩ : ∃ q, n = q + 1 := ⟨n - 1, by omega⟩
    have hi : i < 8 := by omega
    rw [f_X3_greatest_L4.eq_2, f_X6_likely_L27.eq_2, if_neg (show ¬ (8 : Int32) ≤ nI i from nI_ge (b := 8) hi (by decide)), if_neg (show ¬ (8 : Int32) ≤ nI i from nI_ge (b := 8) hi (by decide))]
    simp only [gA_n hi (show 8 < 2 ^ 31 by decide), gA_n hg (show 8 < 2 ^ 31 by decide), nm, nI_1, hab i hi, hab g hg]
    by_cases c : lg_cmp (b i) (b g) ≤ 0
    · simp only [if_pos c]
      exact ih (i + 1) n g (by omega) (by omega) hg
    · simp only [if_neg c]
      exact ih (i + 1) n i (by omega) (by omega) hi
theorem st_likely (i1 i2 : Int32) {text3 told6 : Nat → Int32} {textLength3 length6 : Int32} (hI : INVt text3 textLength3 told6 length6) (behind3 behind6 : Nat → Int32) (uppers3 shares6 : Nat → Int64) (lower3 over6 : Int64) (thrown6 : Int32) :
    ∃ r b3 a3 o3 b6 a6 o6, f_X5_likely i1 i2 text3 behind3 uppers3 lower3 textLength3 = some (r, b3, a3, o3) ∧ f_X6_likely i1 i2 thrown6 told6 length6 behind6 shares6 over6 = some (r, 0, b6, a6, o6) := by
  have hF := FU_ge
  obtain ⟨rfl, rfl, L, hT, rfl⟩ := hI
  unfold f_X5_likely f_X6_likely
  simp only [nm, isTable5, isTable6, Option.bind_some]
  by_cases c1 : tb i1 i2 = 0
  · rw [if_pos c1, if_pos c1]
    exact ⟨_, _, _, _, _, _, _, rfl, rfl⟩
  · rw [if_neg c1, if_neg c1]
    obtain ⟨U, O, b3, b6, a3, a6, h1, h2, h3, h4, h5, h6, h7⟩ := tables hT i1 i2 (tb_u c1) behind3 behind6 uppers3 shares6 lower3 over6
    obtain ⟨g, e1, e2⟩ := gr_L (a := a3) (b := a6) (fun w hw => by rw [h5 w hw, h7 w hw]) 7 1 FU 0 (by omega) (by omega) (by omega)
    rw [h4, h6]
    simp only [Option.bind_some]
    unfold f_X3_greatest
    simp only [nm]
    rw [show (1 : Int32) = nI 1 from rfl, show (0 : Int32) = nI 0 from rfl, e1, e2]
    simp only [Option.bind_some]
    exact ⟨_, _, _, _, _, _, _, rfl, rfl⟩
theorem st_text (i1 : Int32) {text3 told6 : Nat → Int32} {textLength3 length6 : Int32} (hI : INVt text3 textLength3 told6 length6) (thrown6 : Int32) :
    ∃ r text3' told6' textLength3' length6', f_X5_text i1 text3 textLength3 = some (r, text3', textLength3') ∧ f_X6_text i1 thrown6 told6 length6 = some (r, 0, told6', length6') ∧ INVt text3' textLength3' told6' length6' := by
  obtain ⟨rfl, rfl, L, hT, rfl⟩ := hI
  unfold f_X5_text f_X6_text
  simp only [nm, isWord5, within6, Option.bind_some]
  rcases wb_d i1 7 (m := 7) rfl with c2 | ⟨c2, k, hk, rfl⟩
  · rw [if_pos c2, if_pos c2]
    exact ⟨_, _, _, _, _, rfl, rfl, rfl, rfl, L, hT, rfl⟩
  · obtain ⟨hL, hT⟩ := hT
    rw [c2, if_neg b10, if_neg b10]
    unfold f_X3_isFull f_X3_append
    by_cases h6 : L = 60
    · subst h6
      rw [if_neg (show ¬ nI 60 < 60 by decide), if_pos (show nI 60 = 60 from rfl)]
      simp only [Option.bind_some]
      rw [if_neg b10]
      exact ⟨_, _, _, _, _, rfl, rfl, rfl, rfl, 60, ⟨hL, hT⟩, rfl⟩
    · rw [if_pos (show nI L < 60 from nI_lt (b := 60) (by omega) (by decide)), if_neg (show ¬ nI L = 60 from fun h => h6 ((nI_eq (b := 60) (by omega) (by decide)).mp h))]
      simp only [Option.bind_some, if_true]
      rw [sI_n (by omega) (by decide), sI_n (by omega) (by decide)]
      simp only [nm, Option.bind_some, nI_1]
      refine ⟨_, _, _, _, _, rfl, rfl, rfl, rfl, L + 1, ⟨by omega, fun j hj => ?_⟩, rfl⟩
      rw [upd_eq]
      by_cases hjL : j = L
      · rw [if_pos hjL]; exact ⟨k, by omega, rfl⟩
      · rw [if_neg hjL]; exact hT j (by omega)
