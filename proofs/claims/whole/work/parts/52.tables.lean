/-! PURE: the tables of the text -/
def cf (text : Nat → Int32) (w : Nat) (i : Nat) : Nat → Nat
  | 0 => 0
  | m + 1 => (if text i = nI w then 1 else 0) + cf text w (i + 1) m
/-- words that a text has -/
def wfT (text : Nat → Int32) (L : Nat) : Prop := L ≤ 60 ∧ ∀ k, k < L → ∃ w, w < 8 ∧ text k = nI w
theorem cf_le (text : Nat → Int32) (w : Nat) : ∀ (m i : Nat), cf text w i m ≤ m := by
  intro m
  induction m with
  | zero => intro i; exact Nat.le_refl 0
  | succ m ih =>
    intro i
    have h1 := ih (i + 1)
    show (if text i = nI w then 1 else 0) + cf text w (i + 1) m ≤ m + 1
    split <;> omega
theorem ff_2 : ∀ (m i n : Nat) (a : Nat → Int64), i + m = 8 → m < n → ∃ a', f_X3_fillFirst_L2 n (nI i) a = some (nI 8, a') ∧ ∀ w, w < 8 → a' w = if i ≤ w then lN 1 else a w := by
  intro m
  induction m with
  | zero =>
    intro i n a h hn
    obtain ⟨n, rfl⟩ : ∃ q, n = q + 1 := ⟨n - 1, by omega⟩
    have e : i = 8 := by omega
    subst e
    refine ⟨a, ?_, fun w hw => by rw [if_neg (by omega)]⟩
    rw [f_X3_fillFirst_L2.eq_2, if_pos (show (8 : Int32) ≤ nI 8 from nI_le (Nat.le_refl 8) (by decide))]
  | succ m ih =>
    intro i n a h hn
    obtain ⟨n, rfl⟩ : ∃ q, n = q + 1 := ⟨n - 1, by omega⟩
    obtain ⟨a', e1, e2⟩ := ih (i + 1) n (vp_updL a i 1) (by omega) (by omega)
    refine ⟨a', ?_, fun w hw => ?_⟩
    · rw [f_X3_fillFirst_L2.eq_2, if_neg (show ¬ (8 : Int32) ≤ nI i from nI_ge (b := 8) (by omega) (by decide)), sL_n (by omega) (by decide)]
      simp only [nm, nI_1]
      exact e1
    · rw [e2 w hw, updL_eq]
      by_cases h1 : i + 1 ≤ w
      · rw [if_pos h1, if_pos (by omega)]
      · rw [if_neg h1]
        by_cases h2 : w = i
        · rw [if_pos h2, if_pos (by omega)]; rfl
        · rw [if_neg h2, if_neg (by omega)]
theorem ff_23 {text : Nat → Int32} {L : Nat} (hT : wfT text L) : ∀ (m i n : Nat) (a : Nat → Int64) (V : Nat → Nat), i + m = L → m < n → (∀ w, w < 8 → a w = lN (V w)) → ∃ a', f_X3_fillFirst_L23 text (nI L) n (nI i) a = some (nI L, a') ∧ ∀ w, w < 8 → a' w = lN (V w + cf text w i m) := by
  obtain ⟨hL, hT⟩ := hT
  intro m
  induction m with
  | zero =>
    intro i n a V h hn ha
    obtain ⟨n, rfl⟩ : ∃ q, n = q + 1 := ⟨n - 1, by omega⟩
    have e : i = L := by omega
    subst e
    refine ⟨a, ?_, fun w hw => ha w hw⟩
    rw [f_X3_fillFirst_L23.eq_2, if_pos (nI_le (Nat.le_refl i) (by omega))]
  | succ m ih =>
    intro i n a V h hn ha
    obtain ⟨n, rfl⟩ : ∃ q, n = q + 1 := ⟨n - 1, by omega⟩
    obtain ⟨k, hk, hki⟩ := hT i (by omega)
    obtain ⟨a', e1, e2⟩ := ih (i + 1) n (vp_updL a k (a k + 1)) (fun w => V w + if k = w then 1 else 0) (by omega) (by omega) (fun w hw => by
      rw [updL_eq]
      by_cases h2 : w = k
      · rw [if_pos h2, if_pos h2.symm, ha k hk, lN_1, h2]
      · rw [if_neg h2, if_neg (fun h => h2 h.symm)]; exact ha w hw)
    refine ⟨a', ?_, fun w hw => ?_⟩
    · rw [f_X3_fillFirst_L23.eq_2, if_neg (nI_ge (by omega) (by omega)), gA_n (by omega) (by decide), hki, gA_n hk (by decide), sL_n hk (by decide)]
      simp only [nm, nI_1]
      exact e1
    · rw [e2 w hw]
      show lN (V w + (if k = w then 1 else 0) + cf text w (i + 1) m) = lN (V w + ((if text i = nI w then 1 else 0) + cf text w (i + 1) m))
      have e3 : (text i = nI w) ↔ k = w := by rw [hki, nI_eq (by omega) (by omega)]
      simp only [e3]
      rw [Nat.add_assoc]
theorem e6_2 : ∀ (n : Nat) (i : Int32) (a : Nat → Int64), f_X6_first_L2 n i a = f_X3_fillFirst_L2 n i a := by
  intro n
  induction n with
  | zero => intro i a; rfl
  | succ n ih =>
    intro i a
    rw [f_X6_first_L2.eq_2, f_X3_fillFirst_L2.eq_2]
    simp only [ih]
theorem e6_23 (text : Nat → Int32) (l : Int32) : ∀ (n : Nat) (i : Int32) (a : Nat → Int64), f_X6_first_L23 text l n i a = f_X3_fillFirst_L23 text l n i a := by
  intro n
  induction n with
  | zero => intro i a; rfl
  | succ n ih =>
    intro i a
    rw [f_X6_first_L23.eq_2, f_X3_fillFirst_L23.eq_2]
    simp only [ih]
def U1 (text : Nat → Int32) (L w : Nat) : Nat := 1 + cf text w 0 L
theorem first3 {text : Nat → Int32} {L : Nat} (hT : wfT text L) (a : Nat → Int64) (o : Int64) : ∃ a', f_X3_fillFirst text a o (nI L) = some (a', lN (L + 8)) ∧ ∀ w, w < 8 → a' w = lN (U1 text L w) := by
  have hF := FU_ge
  have hL := hT.1
  obtain ⟨a1, e1, e2⟩ := ff_2 8 0 FU a (by omega) (by omega)
  obtain ⟨a2, e3, e4⟩ := ff_23 hT L 0 FU a1 (fun _ => 1) (by omega) (by omega) (fun w hw => by rw [e2 w hw, if_pos (Nat.zero_le w)])
  refine ⟨a2, ?_, e4⟩
  unfold f_X3_fillFirst
  simp only [nm]
  rw [show (0 : Int32) = nI 0 from rfl, e1]
  simp only [Option.bind_some]
  rw [e3]
  simp only [Option.bind_some]
  rw [show (8 : Int32) = nI 8 from rfl, nI_add, nI_l (by omega)]
theorem first6 {text : Nat → Int32} {L : Nat} (hT : wfT text L) (a : Nat → Int64) (o : Int64) : ∃ a', f_X6_first text (nI L) a o = some (a', lN (L + 8)) ∧ ∀ w, w < 8 → a' w = lN (U1 text L w) := by
  have hF := FU_ge
  have hL := hT.1
  obtain ⟨a1, e1, e2⟩ := ff_2 8 0 FU a (by omega) (by omega)
  obtain ⟨a2, e3, e4⟩ := ff_23 hT L 0 FU a1 (fun _ => 1) (by omega) (by omega) (fun w hw => by rw [e2 w hw, if_pos (Nat.zero_le w)])
  refine ⟨a2, ?_, e4⟩
  unfold f_X6_first
  simp only [nm, e6_2, e6_23]
  rw [show (0 : Int32) = nI 0 from rfl, e1]
  simp only [Option.bind_some]
  rw [e3]
  simp only [Option.bind_some]
  rw [nI_l (by omega), show (8 : Int64) = lN 8 from rfl, lN_add]
/-- what stands behind u, or t and u, at place i -/
def hit (text : Nat → Int32) (t u : Int32) (i : Nat) : Prop := text (i - 1) = u ∧ (t = (-1) ∨ (2 ≤ i ∧ text (i - 2) = t))
def hitb (text : Nat → Int32) (t u : Int32) (i : Nat) : Bool := decide (text (i - 1) = u) && (decide (t = (-1)) || (decide (2 ≤ i) && decide (text (i - 2) = t)))
def bf (text : Nat → Int32) (t u : Int32) (w : Nat) (i : Nat) : Nat → Nat
  | 0 => 0
  | m + 1 => (if hitb text t u i = true ∧ text i = nI w then 1 else 0) + bf text t u w (i + 1) m
def hf (text : Nat → Int32) (t u : Int32) (i : Nat) : Nat → Nat
  | 0 => 0
  | m + 1 => (if hitb text t u i = true then 1 else 0) + hf text t u (i + 1) m
theorem hf_le (text : Nat → Int32) (t u : Int32) : ∀ (m i : Nat), hf text t u i m ≤ m := by
  intro m
  induction m with
  | zero => intro i; exact Nat.le_refl 0
  | succ m ih =>
    intro i
    have h1 := ih (i + 1)
    show (if hitb text t u i = true then 1 else 0) + hf text t u (i + 1) m ≤ m + 1
    split <;> omega
theorem bf_le (text : Nat → Int32) (t u : Int32) (w : Nat) : ∀ (m i : Nat), bf text t u w i m ≤ m := by
  intro m
  induction m with
  | zero => intro i; exact Nat.le_refl 0
  | succ m ih =>
    intro i
    have h1 := ih (i + 1)
    show (if hitb text t u i = true ∧ text i = nI w then 1 else 0) + bf text t u w (i + 1) m ≤ m + 1
    split <;> omega
theorem bf_sum {text : Nat → Int32} {L : Nat} (hT : wfT text L) (t u : Int32) : ∀ (m i : Nat), i + m ≤ L → sg (fun w => bf text t u w i m) 0 8 = hf text t u i m := by
  obtain ⟨hL, hT⟩ := hT
  intro m
  induction m with
  | zero => intro i _; exact sg_zero 8 0
  | succ m ih =>
    intro i h
    obtain ⟨k, hk, hki⟩ := hT i (by omega)
    have e1 : sg (fun w => bf text t u w i (m + 1)) 0 8 = sg (fun w => (if hitb text t u i = true ∧ text i = nI w then 1 else 0) + bf text t u w (i + 1) m) 0 8 := rfl
    rw [e1, sg_add, ih (i + 1) (by omega)]
    show _ = (if hitb text t u i = true then 1 else 0) + hf text t u (i + 1) m
    congr 1
    by_cases hh : hitb text t u i = true
    · rw [if_pos hh, sg_congr (f := fun w => if k = w then 1 else 0) 8 0 (fun w _ hw => by
        have e3 : (text i = nI w) ↔ k = w := by rw [hki, nI_eq (by omega) (by omega)]
        simp only [hh, e3, true_and]), sg_one 8 0 (by omega) (by omega)]
    · rw [if_neg hh, sg_congr (f := fun _ => 0) 8 0 (fun w _ hw => if_neg (fun h => hh h.1)), sg_zero]
theorem cb_10 {text : Nat → Int32} {L : Nat} (hT : wfT text L) (t u : Int32) : ∀ (m i n : Nat) (b : Nat → Int32) (B : Nat → Nat), 1 ≤ i → i ≤ 60 → L - i = m → m < n → (∀ w, w < 8 → b w = nI (B w)) → ∃ z b', f_X3_countBehind_L10 t u text (nI L) n (nI i) b = some (z, b') ∧ ∀ w, w < 8 → b' w = nI (B w + bf text t u w i m) := by
  obtain ⟨hL, hT⟩ := hT
  intro m
  induction m with
  | zero =>
    intro i n b B hi1 hi h hn hb
    obtain ⟨n, rfl⟩ : ∃ q, n = q + 1 := ⟨n - 1, by omega⟩
    refine ⟨nI i, b, ?_, fun w hw => hb w hw⟩
    rw [f_X3_countBehind_L10.eq_2, if_pos (nI_le (by omega) (by omega))]
  | succ m ih =>
    intro i n b B hi1 hi h hn hb
    obtain ⟨n, rfl⟩ : ∃ q, n = q + 1 := ⟨n - 1, by omega⟩
    obtain ⟨k, hk, hki⟩ := hT i (by omega)
    have hi59 : i + 1 ≤ 60 := by omega
    obtain ⟨z1, b1, e1, e2⟩ := ih (i + 1) n b B (by omega) hi59 (by omega) (by omega) hb
    obtain ⟨z2, b2, e3, e4⟩ := ih (i + 1) n (upd b k (b k + 1)) (fun w => B w + if k = w then 1 else 0) (by omega) hi59 (by omega) (by omega) (fun w hw => by
      rw [upd_eq]
      by_cases h2 : w = k
      · rw [if_pos h2, if_pos h2.symm, hb k hk, nI_1, h2]
      · rw [if_neg h2, if_neg (fun h => h2 h.symm)]; exact hb w hw)
    have hs1 : nI i - 1 = nI (i - 1) := by rw [show (1 : Int32) = nI 1 from rfl, pk_sub (by omega)]
    have no : hitb text t u i ≠ true → ∃ z b', (some (z1, b1) : Option (Int32 × (Nat → Int32))) = some (z, b') ∧ ∀ w, w < 8 → b' w = nI (B w + bf text t u w i (m + 1)) := fun hh => ⟨z1, b1, rfl, fun w hw => by
      rw [e2 w hw]
      show _ = nI (B w + ((if hitb text t u i = true ∧ text i = nI w then 1 else 0) + bf text t u w (i + 1) m))
      rw [if_neg (fun h => hh h.1), Nat.zero_add]⟩
    have yes : hitb text t u i = true → ∃ z b', (some (z2, b2) : Option (Int32 × (Nat → Int32))) = some (z, b') ∧ ∀ w, w < 8 → b' w = nI (B w + bf text t u w i (m + 1)) := fun hh => ⟨z2, b2, rfl, fun w hw => by
      rw [e4 w hw]
      show nI (B w + (if k = w then 1 else 0) + bf text t u w (i + 1) m) = nI (B w + ((if hitb text t u i = true ∧ text i = nI w then 1 else 0) + bf text t u w (i + 1) m))
      have e5 : (text i = nI w) ↔ k = w := by rw [hki, nI_eq (by omega) (by omega)]
      simp only [hh, e5, true_and]
      rw [Nat.add_assoc]⟩
    rw [f_X3_countBehind_L10.eq_2, if_neg (nI_ge (by omega) (by omega)), hs1, gA_n (by omega) (by decide)]
    simp only [nm, nI_1]
    by_cases c1 : text (i - 1) = u
    · rw [if_pos c1]
      by_cases c2 : t = (-1)
      · rw [if_pos c2, gA_n (by omega) (by decide), hki, gA_n hk (by decide), sI_n hk (by decide), e3]
        exact yes (by unfold hitb; rw [decide_eq_true c1, decide_eq_true c2]; rfl)
      · rw [if_neg c2]
        by_cases c3 : 2 ≤ i
        · have hs2 : nI i - 2 = nI (i - 2) := by rw [show (2 : Int32) = nI 2 from rfl, pk_sub c3]
          rw [if_neg (show ¬ nI i < 2 from nI_nlt (b := 2) c3 (by omega)), hs2, gA_n (by omega) (by decide)]
          by_cases c4 : text (i - 2) = t
          · rw [if_pos c4, gA_n (by omega) (by decide), hki, gA_n hk (by decide), sI_n hk (by decide), e3]
            exact yes (by unfold hitb; rw [decide_eq_true c1, decide_eq_true c3, decide_eq_true c4]; simp)
          · rw [if_neg c4, e1]
            exact no (by unfold hitb; rw [decide_eq_false c4, decide_eq_false c2]; simp)
        · rw [if_pos (show nI i < 2 from nI_lt (b := 2) (by omega) (by decide)), e1]
          exact no (by unfold hitb; rw [decide_eq_false c3, decide_eq_false c2]; simp)
    · rw [if_neg c1, e1]
      exact no (by unfold hitb; rw [decide_eq_false c1]; simp)
theorem c6_35 {text : Nat → Int32} {L : Nat} (hT : wfT text L) (t u : Int32) : ∀ (m i n c : Nat) (b : Nat → Int32) (B : Nat → Nat), 1 ≤ i → (t ≠ (-1) → 2 ≤ i) → i ≤ 60 → L - i = m → m < n → (∀ w, w < 8 → b w = nI (B w)) → ∃ z b', f_X6_count_L35 t u text (nI L) n (nI i) (nI c) b = some (z, nI (c + hf text t u i m), b') ∧ ∀ w, w < 8 → b' w = nI (B w + bf text t u w i m) := by
  obtain ⟨hL, hT⟩ := hT
  intro m
  induction m with
  | zero =>
    intro i n c b B hi1 hi2 hi h hn hb
    obtain ⟨n, rfl⟩ : ∃ q, n = q + 1 := ⟨n - 1, by omega⟩
    refine ⟨nI i, b, ?_, fun w hw => hb w hw⟩
    rw [f_X6_count_L35.eq_2, if_pos (nI_le (by omega) (by omega))]
    rfl
  | succ m ih =>
    intro i n c b B hi1 hi2 hi h hn hb
    obtain ⟨n, rfl⟩ : ∃ q, n = q + 1 := ⟨n - 1, by omega⟩
    obtain ⟨k, hk, hki⟩ := hT i (by omega)
    have hi59 : i + 1 ≤ 60 := by omega
    obtain ⟨z1, b1, e1, e2⟩ := ih (i + 1) n c b B (by omega) (fun _ => by omega) hi59 (by omega) (by omega) hb
    obtain ⟨z2, b2, e3, e4⟩ := ih (i + 1) n (c + 1) (upd b k (b k + 1)) (fun w => B w + if k = w then 1 else 0) (by omega) (fun _ => by omega) hi59 (by omega) (by omega) (fun w hw => by
      rw [upd_eq]
      by_cases h2 : w = k
      · rw [if_pos h2, if_pos h2.symm, hb k hk, nI_1, h2]
      · rw [if_neg h2, if_neg (fun h => h2 h.symm)]; exact hb w hw)
    have hs1 : nI i - 1 = nI (i - 1) := by rw [show (1 : Int32) = nI 1 from rfl, pk_sub (by omega)]
    have no : hitb text t u i ≠ true → ∃ z b', (some (z1, nI (c + hf text t u (i + 1) m), b1) : Option (Int32 × Int32 × (Nat → Int32))) = some (z, nI (c + hf text t u i (m + 1)), b') ∧ ∀ w, w < 8 → b' w = nI (B w + bf text t u w i (m + 1)) := fun hh => ⟨z1, b1, by
      show _ = some (z1, nI (c + ((if hitb text t u i = true then 1 else 0) + hf text t u (i + 1) m)), b1)
      rw [if_neg hh, Nat.zero_add], fun w hw => by
      rw [e2 w hw]
      show _ = nI (B w + ((if hitb text t u i = true ∧ text i = nI w then 1 else 0) + bf text t u w (i + 1) m))
      rw [if_neg (fun h => hh h.1), Nat.zero_add]⟩
    have yes : hitb text t u i = true → ∃ z b', (some (z2, nI (c + 1 + hf text t u (i + 1) m), b2) : Option (Int32 × Int32 × (Nat → Int32))) = some (z, nI (c + hf text t u i (m + 1)), b') ∧ ∀ w, w < 8 → b' w = nI (B w + bf text t u w i (m + 1)) := fun hh => ⟨z2, b2, by
      show _ = some (z2, nI (c + ((if hitb text t u i = true then 1 else 0) + hf text t u (i + 1) m)), b2)
      rw [if_pos hh, Nat.add_assoc], fun w hw => by
      rw [e4 w hw]
      show nI (B w + (if k = w then 1 else 0) + bf text t u w (i + 1) m) = nI (B w + ((if hitb text t u i = true ∧ text i = nI w then 1 else 0) + bf text t u w (i + 1) m))
      have e5 : (text i = nI w) ↔ k = w := by rw [hki, nI_eq (by omega) (by omega)]
      simp only [hh, e5, true_and]
      rw [Nat.add_assoc]⟩
    rw [f_X6_count_L35.eq_2, if_neg (nI_ge (by omega) (by omega)), hs1, gA_n (by omega) (by decide)]
    simp only [nm, nI_1]
    by_cases c1 : text (i - 1) = u
    · rw [if_pos c1]
      by_cases c2 : t = (-1)
      · rw [if_pos c2, gA_n (by omega) (by decide), hki, gA_n hk (by decide), sI_n hk (by decide), e3]
        exact yes (by unfold hitb; rw [decide_eq_true c1, decide_eq_true c2]; rfl)
      · have c3 := hi2 c2
        have hs2 : nI i - 2 = nI (i - 2) := by rw [show (2 : Int32) = nI 2 from rfl, pk_sub c3]
        rw [if_neg c2, hs2, gA_n (by omega) (by decide)]
        by_cases c4 : text (i - 2) = t
        · rw [if_pos c4, gA_n (by omega) (by decide), hki, gA_n hk (by decide), sI_n hk (by decide), e3]
          exact yes (by unfold hitb; rw [decide_eq_true c1, decide_eq_true c3, decide_eq_true c4]; simp)
        · rw [if_neg c4, e1]
          exact no (by unfold hitb; rw [decide_eq_false c4, decide_eq_false c2]; simp)
    · rw [if_neg c1, e1]
      exact no (by unfold hitb; rw [decide_eq_false c1]; simp)
