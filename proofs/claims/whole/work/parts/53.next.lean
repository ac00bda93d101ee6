/-! PURE: a table out of the one below; next, likely, text -/
def gR (B U : Nat → Nat) (w : Nat) : Nat := if B w = 0 then U w else 0
def gK (B : Nat → Nat) (w : Nat) : Nat := if B w = 0 then 0 else 1
theorem le0 {b : Nat} (h : b ≤ 100) : (nI b ≤ 0) ↔ b = 0 := by
  rw [show (0 : Int32) = nI 0 from rfl, nI_leI (by omega) (by decide)]
  omega
theorem pa_9 {b : Nat → Int32} {a : Nat → Int64} {B U : Nat → Nat} (hb : ∀ w, w < 8 → b w = nI (B w) ∧ B w ≤ 60) (ha : ∀ w, w < 8 → a w = lN (U w)) : ∀ (m i n R K A : Nat), i + m = 8 → m < n → f_X3_putAbove_L9 b a n (nI i) (lN R) (nI K) (nI A) = some (nI 8, lN (R + sg (gR B U) i m), nI (K + sg (gK B) i m), nI (A + sg B i m)) := by
  intro m
  induction m with
  | zero =>
    intro i n R K A h hn
    obtain ⟨n, rfl⟩ : ∃ q, n = q + 1 := ⟨n - 1, by omega⟩
    have e : i = 8 := by omega
    subst e
    rw [f_X3_putAbove_L9.eq_2, if_pos (show (8 : Int32) ≤ nI 8 from nI_le (Nat.le_refl 8) (by decide))]
    rfl
  | succ m ih =>
    intro i n R K A h hn
    obtain ⟨n, rfl⟩ : ∃ q, n = q + 1 := ⟨n - 1, by omega⟩
    have hi : i < 8 := by omega
    obtain ⟨hbi, hb60⟩ := hb i hi
    rw [f_X3_putAbove_L9.eq_2, if_neg (show ¬ (8 : Int32) ≤ nI i from nI_ge (b := 8) hi (by decide))]
    simp only [gA_n hi (show 8 < 2 ^ 31 by decide), nm, hbi, ha i hi, le0 (Nat.le_trans hb60 (by decide)), nI_1, nI_add]
    show _ = some (nI 8, lN (R + (gR B U i + sg (gR B U) (i + 1) m)), nI (K + (gK B i + sg (gK B) (i + 1) m)), nI (A + (B i + sg B (i + 1) m)))
    by_cases h0 : B i = 0
    · rw [if_pos h0, if_pos h0, show nI K + 0 = nI K by rw [show (0 : Int32) = nI 0 from rfl, nI_add, Nat.add_zero], lN_add, ih (i + 1) n _ _ _ (by omega) (by omega)]
      simp only [gR, gK, h0, if_true, Nat.zero_add, Nat.add_zero, Nat.add_assoc]
    · rw [if_neg h0, if_neg h0, show lN R + 0 = lN R by rw [show (0 : Int64) = lN 0 from rfl, lN_add, Nat.add_zero], ih (i + 1) n _ _ _ (by omega) (by omega)]
      simp only [gR, gK, h0, if_false, Nat.zero_add, Nat.add_assoc]
theorem p6_12 {b : Nat → Int32} {a : Nat → Int64} {B U : Nat → Nat} (hb : ∀ w, w < 8 → b w = nI (B w) ∧ B w ≤ 60) (ha : ∀ w, w < 8 → a w = lN (U w)) : ∀ (m i n R K : Nat), i + m = 8 → m < n → f_X6_above_L12 b a n (nI i) (lN R) (nI K) = some (nI 8, lN (R + sg (gR B U) i m), nI (K + sg (gK B) i m)) := by
  intro m
  induction m with
  | zero =>
    intro i n R K h hn
    obtain ⟨n, rfl⟩ : ∃ q, n = q + 1 := ⟨n - 1, by omega⟩
    have e : i = 8 := by omega
    subst e
    rw [f_X6_above_L12.eq_2, if_pos (show (8 : Int32) ≤ nI 8 from nI_le (Nat.le_refl 8) (by decide))]
    rfl
  | succ m ih =>
    intro i n R K h hn
    obtain ⟨n, rfl⟩ : ∃ q, n = q + 1 := ⟨n - 1, by omega⟩
    have hi : i < 8 := by omega
    obtain ⟨hbi, hb60⟩ := hb i hi
    rw [f_X6_above_L12.eq_2, if_neg (show ¬ (8 : Int32) ≤ nI i from nI_ge (b := 8) hi (by decide))]
    simp only [gA_n hi (show 8 < 2 ^ 31 by decide), nm, hbi, ha i hi, le0 (Nat.le_trans hb60 (by decide)), nI_1]
    show _ = some (nI 8, lN (R + (gR B U i + sg (gR B U) (i + 1) m)), nI (K + (gK B i + sg (gK B) (i + 1) m)))
    by_cases h0 : B i = 0
    · rw [if_pos h0, if_pos h0, show nI K + 0 = nI K by rw [show (0 : Int32) = nI 0 from rfl, nI_add, Nat.add_zero], lN_add, ih (i + 1) n _ _ (by omega) (by omega)]
      simp only [gR, gK, h0, if_true, Nat.zero_add, Nat.add_assoc]
    · rw [if_neg h0, if_neg h0, show lN R + 0 = lN R by rw [show (0 : Int64) = lN 0 from rfl, lN_add, Nat.add_zero], ih (i + 1) n _ _ (by omega) (by omega)]
      simp only [gR, gK, h0, if_false, Nat.zero_add, Nat.add_assoc]
theorem tc_2 {b : Nat → Int32} {B : Nat → Nat} (hb : ∀ w, w < 8 → b w = nI (B w) ∧ B w ≤ 60) : ∀ (m i n : Nat) (a : Nat → Int64), i + m = 8 → m < n → ∃ a', f_X3_takeCounts_L2 b n (nI i) a = some (nI 8, a') ∧ ∀ w, w < 8 → a' w = if i ≤ w then lN (B w) else a w := by
  intro m
  induction m with
  | zero =>
    intro i n a h hn
    obtain ⟨n, rfl⟩ : ∃ q, n = q + 1 := ⟨n - 1, by omega⟩
    have e : i = 8 := by omega
    subst e
    refine ⟨a, ?_, fun w hw => by rw [if_neg (by omega)]⟩
    rw [f_X3_takeCounts_L2.eq_2, if_pos (show (8 : Int32) ≤ nI 8 from nI_le (Nat.le_refl 8) (by decide))]
  | succ m ih =>
    intro i n a h hn
    obtain ⟨n, rfl⟩ : ∃ q, n = q + 1 := ⟨n - 1, by omega⟩
    have hi : i < 8 := by omega
    obtain ⟨hbi, hb60⟩ := hb i hi
    obtain ⟨a', e1, e2⟩ := ih (i + 1) n (vp_updL a i (lN (B i))) (by omega) (by omega)
    refine ⟨a', ?_, fun w hw => ?_⟩
    · rw [f_X3_takeCounts_L2.eq_2, if_neg (show ¬ (8 : Int32) ≤ nI i from nI_ge (b := 8) hi (by decide)), gA_n hi (by decide), sL_n hi (by decide), hbi, nI_l (by omega)]
      simp only [nm, nI_1]
      exact e1
    · rw [e2 w hw, updL_eq]
      by_cases h1 : i + 1 ≤ w
      · rw [if_pos h1, if_pos (by omega)]
      · rw [if_neg h1]
        by_cases h2 : w = i
        · rw [if_pos h2, if_pos (by omega), h2]
        · rw [if_neg h2, if_neg (by omega)]
def hdU (B U : Nat → Nat) (K R w : Nat) : Nat := if B w = 0 then K * U w else (2 * B w - 1) * R
theorem hd_3 {b : Nat → Int32} {B U : Nat → Nat} {K R : Nat} (hK : K < 2 ^ 31) (hb : ∀ w, w < 8 → b w = nI (B w) ∧ B w ≤ 60) : ∀ (m i n : Nat) (a : Nat → Int64), i + m = 8 → m < n → (∀ w, w < 8 → i ≤ w → a w = lN (U w)) → ∃ a', f_X3_handDown_L3 (nI K) (lN R) b n (nI i) a = some (nI 8, a') ∧ ∀ w, w < 8 → a' w = if i ≤ w then lN (hdU B U K R w) else a w := by
  intro m
  induction m with
  | zero =>
    intro i n a h hn ha
    obtain ⟨n, rfl⟩ : ∃ q, n = q + 1 := ⟨n - 1, by omega⟩
    have e : i = 8 := by omega
    subst e
    refine ⟨a, ?_, fun w hw => by rw [if_neg (by omega)]⟩
    rw [f_X3_handDown_L3.eq_2, if_pos (show (8 : Int32) ≤ nI 8 from nI_le (Nat.le_refl 8) (by decide))]
  | succ m ih =>
    intro i n a h hn ha
    obtain ⟨n, rfl⟩ : ∃ q, n = q + 1 := ⟨n - 1, by omega⟩
    have hi : i < 8 := by omega
    obtain ⟨hbi, hb60⟩ := hb i hi
    obtain ⟨a', e1, e2⟩ := ih (i + 1) n (vp_updL a i (lN (hdU B U K R i))) (by omega) (by omega) (fun w hw h1 => by rw [updL_eq, if_neg (by omega)]; exact ha w hw (by omega))
    refine ⟨a', ?_, fun w hw => ?_⟩
    · rw [f_X3_handDown_L3.eq_2, if_neg (show ¬ (8 : Int32) ≤ nI i from nI_ge (b := 8) hi (by decide)), gA_n hi (by decide), hbi]
      simp only [le0 (Nat.le_trans hb60 (by decide)), nm, nI_1]
      by_cases h0 : B i = 0
      · rw [if_pos h0, gA_n hi (by decide), sL_n hi (by decide), nI_l hK, ha i hi (Nat.le_refl i), lN_mul]
        unfold hdU at e1
        rw [if_pos h0] at e1
        exact e1
      · rw [if_neg h0, gA_n hi (by decide), sL_n hi (by decide), hbi, nI_l (by omega), show (2 : Int64) = lN 2 from rfl, show (1 : Int64) = lN 1 from rfl, lN_mul, lN_sub (by omega), lN_mul]
        unfold hdU at e1
        rw [if_neg h0] at e1
        exact e1
    · rw [e2 w hw, updL_eq]
      by_cases h1 : i + 1 ≤ w
      · rw [if_pos h1, if_pos (by omega)]
      · rw [if_neg h1]
        by_cases h2 : w = i
        · rw [if_pos h2, if_pos (by omega), h2]
        · rw [if_neg h2, if_neg (by omega)]
theorem e70_8 (z : Int64) (b : Nat → Int32) : ∀ (n : Nat) (i : Int32) (a : Nat → Int64), f_X6_above_L70 z 8 b n i a = f_X3_takeCounts_L2 b n i a := by
  intro n
  induction n with
  | zero => intro i a; rfl
  | succ n ih =>
    intro i a
    rw [f_X6_above_L70.eq_2, f_X3_takeCounts_L2.eq_2]
    simp only [ih, if_true]
theorem e70_n (z : Int64) {k : Int32} (hk : ¬ k = 8) (b : Nat → Int32) : ∀ (n : Nat) (i : Int32) (a : Nat → Int64), f_X6_above_L70 z k b n i a = f_X3_handDown_L3 k z b n i a := by
  intro n
  induction n with
  | zero => intro i a; rfl
  | succ n ih =>
    intro i a
    rw [f_X6_above_L70.eq_2, f_X3_handDown_L3.eq_2]
    simp only [ih, if_neg hk]
def sK (B : Nat → Nat) : Nat := sg (gK B) 0 8
def sR (B U : Nat → Nat) : Nat := sg (gR B U) 0 8
def aU (B U : Nat → Nat) (w : Nat) : Nat := if sg B 0 8 = 0 then U w else if sK B = 8 then B w else hdU B U (sK B) (sR B U) w
def aO (B U : Nat → Nat) (O : Nat) : Nat := if sg B 0 8 = 0 then O else if sK B = 8 then sg B 0 8 else 2 * sg B 0 8 * sR B U
theorem gK1 (B : Nat → Nat) (w : Nat) : gK B w ≤ 1 := by unfold gK; split <;> omega
theorem sK8 (B : Nat → Nat) : sK B ≤ 8 := by have := sg_le (g := gK B) (b := 1) 8 0 (fun w _ _ => gK1 B w); unfold sK; omega
theorem sB8 {B : Nat → Nat} (hb : ∀ w, w < 8 → B w ≤ 60) : sg B 0 8 ≤ 480 := by have := sg_le (g := B) (b := 60) 8 0 (fun w _ h => hb w (by omega)); omega
theorem above3 {b : Nat → Int32} {a : Nat → Int64} {B U : Nat → Nat} (hb : ∀ w, w < 8 → b w = nI (B w) ∧ B w ≤ 60) (ha : ∀ w, w < 8 → a w = lN (U w)) (O : Nat) : ∃ a', f_X3_putAbove b a (lN O) = some (a', lN (aO B U O)) ∧ ∀ w, w < 8 → a' w = lN (aU B U w) := by
  have hF := FU_ge
  have h8 := sK8 B
  have hB := sB8 (fun w hw => (hb w hw).2)
  have e0 := pa_9 hb ha 8 0 FU 0 0 0 (by omega) (by omega)
  simp only [Nat.zero_add] at e0
  unfold f_X3_putAbove
  simp only [nm]
  rw [show (0 : Int32) = nI 0 from rfl, show (0 : Int64) = lN 0 from rfl, e0]
  simp only [Option.bind_some, nI_eq (show sg B 0 8 < 2 ^ 31 by omega) (show 0 < 2 ^ 31 by decide)]
  by_cases c1 : sg B 0 8 = 0
  · rw [if_pos c1]
    refine ⟨a, ?_, fun w hw => ?_⟩
    · unfold aO; rw [if_pos c1]
    · unfold aU; rw [if_pos c1]; exact ha w hw
  · rw [if_neg c1]
    simp only [show (8 : Int32) = nI 8 from rfl, nI_eq (show sg (gK B) 0 8 < 2 ^ 31 by unfold sK at h8; omega) (show 8 < 2 ^ 31 by decide)]
    by_cases c2 : sg (gK B) 0 8 = 8
    · rw [if_pos c2]
      obtain ⟨a', e1, e2⟩ := tc_2 hb 8 0 FU a (by omega) (by omega)
      refine ⟨a', ?_, fun w hw => ?_⟩
      · unfold f_X3_takeCounts
        simp only [nm]
        rw [show (0 : Int32) = nI 0 from rfl, e1]
        simp only [Option.bind_some]
        rw [nI_l (by omega)]
        unfold aO sK
        rw [if_neg c1, if_pos c2]
      · rw [e2 w hw, if_pos (Nat.zero_le w)]
        unfold aU sK
        rw [if_neg c1, if_pos c2]
    · rw [if_neg c2]
      obtain ⟨a', e1, e2⟩ := hd_3 (U := U) (R := sR B U) (K := sg (gK B) 0 8) (by unfold sK at h8; omega) hb 8 0 FU a (by omega) (by omega) (fun w hw _ => ha w hw)
      refine ⟨a', ?_, fun w hw => ?_⟩
      · unfold f_X3_handDown
        simp only [nm]
        rw [show (0 : Int32) = nI 0 from rfl, show sg (gR B U) 0 8 = sR B U from rfl, e1]
        simp only [Option.bind_some]
        rw [nI_l (by omega), show (2 : Int64) = lN 2 from rfl, lN_mul, lN_mul]
        unfold aO sK
        rw [if_neg c1, if_neg c2]
      · rw [e2 w hw, if_pos (Nat.zero_le w)]
        unfold aU sK
        rw [if_neg c1, if_neg c2]
theorem above6t {b : Nat → Int32} {a : Nat → Int64} {B U : Nat → Nat} (hb : ∀ w, w < 8 → b w = nI (B w) ∧ B w ≤ 60) (ha : ∀ w, w < 8 → a w = lN (U w)) (O : Nat) : ∃ a', f_X6_above (nI (sg B 0 8)) b a (lN O) = some (a', lN (aO B U O)) ∧ ∀ w, w < 8 → a' w = lN (aU B U w) := by
  have hF := FU_ge
  have h8 := sK8 B
  have hB := sB8 (fun w hw => (hb w hw).2)
  have e0 := p6_12 hb ha 8 0 FU 0 0 (by omega) (by omega)
  simp only [Nat.zero_add] at e0
  unfold f_X6_above
  simp only [nm]
  rw [show (0 : Int32) = nI 0 from rfl, show (0 : Int64) = lN 0 from rfl]
  simp only [nI_eq (show sg B 0 8 < 2 ^ 31 by omega) (show 0 < 2 ^ 31 by decide)]
  by_cases c1 : sg B 0 8 = 0
  · rw [if_pos c1]
    refine ⟨a, ?_, fun w hw => ?_⟩
    · unfold aO; rw [if_pos c1]
    · unfold aU; rw [if_pos c1]; exact ha w hw
  · rw [if_neg c1, e0]
    simp only [Option.bind_some]
    by_cases c2 : sg (gK B) 0 8 = 8
    · rw [c2, show nI 8 = 8 from rfl]
      simp only [e70_8, if_true]
      obtain ⟨a', e1, e2⟩ := tc_2 hb 8 0 FU a (by omega) (by omega)
      refine ⟨a', ?_, fun w hw => ?_⟩
      · rw [e1]
        simp only [Option.bind_some]
        rw [nI_l (by omega)]
        unfold aO sK
        rw [if_neg c1, if_pos c2]
      · rw [e2 w hw, if_pos (Nat.zero_le w)]
        unfold aU sK
        rw [if_neg c1, if_pos c2]
    · have hn8 : ¬ nI (sg (gK B) 0 8) = 8 := by rw [show (8 : Int32) = nI 8 from rfl, nI_eq (by unfold sK at h8; omega) (by decide)]; exact c2
      simp only [e70_n _ hn8, if_neg hn8]
      obtain ⟨a', e1, e2⟩ := hd_3 (U := U) (R := sR B U) (K := sg (gK B) 0 8) (by unfold sK at h8; omega) hb 8 0 FU a (by omega) (by omega) (fun w hw _ => ha w hw)
      refine ⟨a', ?_, fun w hw => ?_⟩
      · rw [show sg (gR B U) 0 8 = sR B U from rfl, e1]
        simp only [Option.bind_some]
        rw [nI_l (by omega), show (2 : Int64) = lN 2 from rfl, lN_mul, lN_mul]
        unfold aO sK
        rw [if_neg c1, if_neg c2]
      · rw [e2 w hw, if_pos (Nat.zero_le w)]
        unfold aU sK
        rw [if_neg c1, if_neg c2]
/-- every share is above 0, and small -/
theorem aU_b {B U : Nat → Nat} {u O : Nat} (hb : ∀ w, w < 8 → B w ≤ 60) (hU : ∀ w, w < 8 → 0 < U w ∧ U w ≤ u) (hu : 60 ≤ u) (hO : 0 < O ∧ O ≤ u) : (∀ w, w < 8 → 0 < aU B U w ∧ aU B U w ≤ 8000 * u) ∧ 0 < aO B U O ∧ aO B U O ≤ 8000 * u := by
  have hB := sB8 hb
  have h8 := sK8 B
  have hR : sR B U ≤ 8 * u := sg_le 8 0 (fun w _ h => by
    unfold gR
    have := hU w (by omega)
    split <;> omega)
  unfold aU aO
  by_cases c1 : sg B 0 8 = 0
  · simp only [if_pos c1]
    exact ⟨fun w hw => by have := hU w hw; omega, by omega, by omega⟩
  · simp only [if_neg c1]
    by_cases c2 : sK B = 8
    · simp only [if_pos c2]
      refine ⟨fun w hw => ?_, by omega, by omega⟩
      have h1 := sg_full 8 0 (gK1 B) c2 w (Nat.zero_le w) (by omega)
      have h2 := hb w hw
      unfold gK at h1
      by_cases h3 : B w = 0
      · rw [if_pos h3] at h1; omega
      · omega
    · simp only [if_neg c2]
      have hKp : 0 < sK B := by
        obtain ⟨w, -, hw, hp⟩ := sg_ex (g := B) 8 0 (by omega)
        exact sg_pos 8 0 w (Nat.zero_le w) hw (by unfold gK; rw [if_neg (by omega)]; decide)
      have hRp : 0 < sR B U := by
        by_cases hz : ∃ w, w < 8 ∧ B w = 0
        · obtain ⟨w, hw, h0⟩ := hz
          exact sg_pos 8 0 w (Nat.zero_le w) (by omega) (by unfold gR; rw [if_pos h0]; exact (hU w hw).1)
        · exfalso
          apply c2
          have e1 : sK B = sg (fun _ => 1) 0 8 := sg_congr 8 0 (fun w _ hw => by unfold gK; rw [if_neg (fun h => hz ⟨w, by omega, h⟩)])
          rw [e1]
          rfl
      refine ⟨fun w hw => ?_, ?_, ?_⟩
      · have h2 := hb w hw
        obtain ⟨h3, h4⟩ := hU w hw
        unfold hdU
        by_cases h0 : B w = 0
        · rw [if_pos h0]
          refine ⟨Nat.mul_pos hKp h3, ?_⟩
          have : sK B * U w ≤ 8 * u := Nat.mul_le_mul h8 h4
          omega
        · rw [if_neg h0]
          refine ⟨Nat.mul_pos (by omega) hRp, ?_⟩
          have : (2 * B w - 1) * sR B U ≤ 119 * (8 * u) := Nat.mul_le_mul (by omega) hR
          omega
      · exact Nat.mul_pos (by omega) hRp
      · have : 2 * sg B 0 8 * sR B U ≤ 960 * (8 * u) := Nat.mul_le_mul (by omega) hR
        omega
