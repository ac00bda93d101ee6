/-! PURE: numbers, arrays and sums; then fractions -/
theorem c_eq (x y : Int64) : lg_cmp x y = 0 ↔ x = y := lg_cmp_eq x y
theorem c_le (x y : Int64) : lg_cmp x y ≤ 0 ↔ x ≤ y := lg_cmp_le x y
theorem c_gt (x y : Int64) : 0 < lg_cmp x y ↔ y < x := lg_cmp_gt x y
theorem l0 : (0 : Int64) = lN 0 := rfl
theorem l1 : (1 : Int64) = lN 1 := rfl
theorem i0 : (0 : Int32) = nI 0 := rfl
theorem i1 : (1 : Int32) = nI 1 := rfl
theorem gA_n {α β : Type} {n k : Nat} {f : Nat → α} {K : α → Option β} (h : k < n) (hn : n < 2 ^ 31) : gA n f (nI k) K = K (f k) := by
  unfold gA
  rw [if_neg (nI_in h hn), nI_clamp (by omega)]
theorem sI_n {β : Type} {n k : Nat} {f : Nat → Int32} {x : Int32} {K : (Nat → Int32) → Option β} (h : k < n) (hn : n < 2 ^ 31) : sI n f (nI k) x K = K (upd f k x) := by
  unfold sI
  rw [if_neg (nI_in h hn), nI_clamp (by omega)]
theorem sL_n {β : Type} {n k : Nat} {f : Nat → Int64} {x : Int64} {K : (Nat → Int64) → Option β} (h : k < n) (hn : n < 2 ^ 31) : sL n f (nI k) x K = K (vp_updL f k x) := by
  unfold sL
  rw [if_neg (nI_in h hn), nI_clamp (by omega)]
theorem dzL_n {β : Type} {b : Nat} {K : Option β} (h0 : 0 < b) (hb : b < 2 ^ 63) : dzL (lN b) K = K := by
  unfold dzL
  rw [if_neg]
  intro h
  rw [l0, pk_lEQ hb (by decide)] at h
  omega
theorem FU_ge : 2000 ≤ FU := by unfold FU; decide
/-- Euclid, the reference's -/
theorem me_0 (n a : Nat) : f_X6_measure_L6 (n + 1) (lN 0) (lN a) = some (lN 0, lN a) := by
  rw [f_X6_measure_L6.eq_2, if_pos (show lg_cmp (lN 0) 0 = 0 from (c_eq _ _).mpr rfl)]
theorem me_s {n a b : Nat} (ha : a < 2 ^ 63) (hb : b < 2 ^ 63) (h0 : 0 < b) : f_X6_measure_L6 (n + 1) (lN b) (lN a) = f_X6_measure_L6 n (lN (a % b)) (lN b) := by
  rw [f_X6_measure_L6.eq_2, if_neg, dzL_n h0 hb]
  · simp only [nm]
    rw [pk_lRem ha h0 hb]
  · rw [c_eq, l0, pk_lEQ hb (by decide)]
    omega
theorem half_mod {b r : Nat} (hr : 0 < r) (h : r < b) : 2 * (b % r) < b := by
  have h1 : b % r < r := Nat.mod_lt _ hr
  have h2 := Nat.div_add_mod b r
  have h3 : 1 ≤ b / r := Nat.div_pos (Nat.le_of_lt h) hr
  have h4 : r * 1 ≤ r * (b / r) := Nat.mul_le_mul_left r h3
  omega
theorem me_all : ∀ (k a b n : Nat), b < 2 ^ k → a < 2 ^ 63 → b < 2 ^ 63 → 2 * k + 1 ≤ n → f_X6_measure_L6 n (lN b) (lN a) = some (lN 0, lN (Nat.gcd a b)) := by
  intro k
  induction k with
  | zero =>
    intro a b n hb ha _ hn
    obtain ⟨n, rfl⟩ : ∃ m, n = m + 1 := ⟨n - 1, by omega⟩
    have e : b = 0 := by simpa using hb
    subst e
    rw [me_0, Nat.gcd_zero_right]
  | succ k ih =>
    intro a b n hb ha hb2 hn
    obtain ⟨n, rfl⟩ : ∃ m, n = m + 3 := ⟨n - 3, by omega⟩
    rcases Nat.eq_zero_or_pos b with rfl | h0
    · rw [me_0, Nat.gcd_zero_right]
    · rw [me_s ha hb2 h0]
      have hr : a % b < b := Nat.mod_lt _ h0
      have eg : Nat.gcd a b = Nat.gcd b (a % b) := by rw [Nat.gcd_comm a b, Nat.gcd_rec b a, Nat.gcd_comm]
      rcases Nat.eq_zero_or_pos (a % b) with hz | hp
      · rw [hz, me_0, eg, hz, Nat.gcd_zero_right]
      · rw [me_s hb2 (by omega) hp, ih _ _ _ (by have := half_mod hp hr; rw [Nat.pow_succ] at hb; omega) (by omega) (by have := Nat.mod_lt b hp; omega) (by omega), eg]
        congr 2
        rw [Nat.gcd_comm b (a % b), Nat.gcd_rec (a % b) b, Nat.gcd_comm]
theorem me_f {a b : Nat} (ha : a < 2 ^ 63) (hb : b < 2 ^ 63) : f_X6_measure (lN a) (lN b) = some (lN (Nat.gcd a b)) := by
  unfold f_X6_measure
  simp only [nm]
  rw [me_all 63 a b FU hb ha hb (by have := FU_ge; omega)]
  rfl
/-- Euclid, the class's -/
theorem cd_0 {n s a : Nat} (hs : s < 200) : f_X0_commonDivisor_L9 (n + 1) (nI s) (lN 0) (lN a) = some (nI s, lN 0, lN a) := by
  rw [f_X0_commonDivisor_L9.eq_2, if_neg (show ¬ (200 : Int32) ≤ nI s from nI_ge (b := 200) hs (by decide)), if_pos (show lg_cmp (lN 0) 0 = 0 from (c_eq _ _).mpr rfl)]
theorem cd_s {n s a b : Nat} (hs : s < 200) (ha : a < 2 ^ 63) (hb : b < 2 ^ 63) (h0 : 0 < b) : f_X0_commonDivisor_L9 (n + 1) (nI s) (lN b) (lN a) = f_X0_commonDivisor_L9 n (nI (s + 1)) (lN (a % b)) (lN b) := by
  rw [f_X0_commonDivisor_L9.eq_2, if_neg (show ¬ (200 : Int32) ≤ nI s from nI_ge (b := 200) hs (by decide)), if_neg, dzL_n h0 hb]
  · simp only [nm]
    rw [pk_lRem ha h0 hb, nI_1]
  · rw [c_eq, l0, pk_lEQ hb (by decide)]
    omega
theorem cd_all : ∀ (k a b s n : Nat), b < 2 ^ k → a < 2 ^ 63 → b < 2 ^ 63 → s + 2 * k + 1 ≤ 200 → 2 * k + 1 ≤ n → ∃ z, f_X0_commonDivisor_L9 n (nI s) (lN b) (lN a) = some (z, lN 0, lN (Nat.gcd a b)) := by
  intro k
  induction k with
  | zero =>
    intro a b s n hb ha _ hs hn
    obtain ⟨n, rfl⟩ : ∃ m, n = m + 1 := ⟨n - 1, by omega⟩
    have e : b = 0 := by simpa using hb
    subst e
    rw [cd_0 (by omega), Nat.gcd_zero_right]
    exact ⟨_, rfl⟩
  | succ k ih =>
    intro a b s n hb ha hb2 hs hn
    obtain ⟨n, rfl⟩ : ∃ m, n = m + 3 := ⟨n - 3, by omega⟩
    rcases Nat.eq_zero_or_pos b with rfl | h0
    · rw [cd_0 (by omega), Nat.gcd_zero_right]
      exact ⟨_, rfl⟩
    · rw [cd_s (by omega) ha hb2 h0]
      have hr : a % b < b := Nat.mod_lt _ h0
      have eg : Nat.gcd a b = Nat.gcd b (a % b) := by rw [Nat.gcd_comm a b, Nat.gcd_rec b a, Nat.gcd_comm]
      rcases Nat.eq_zero_or_pos (a % b) with hz | hp
      · rw [hz, cd_0 (by omega), eg, hz, Nat.gcd_zero_right]
        exact ⟨_, rfl⟩
      · rw [cd_s (by omega) hb2 (by omega) hp]
        obtain ⟨z, hz⟩ := ih (a % b) (b % (a % b)) (s + 1 + 1) (n + 1) (by have := half_mod hp hr; rw [Nat.pow_succ] at hb; omega) (by omega) (by have := Nat.mod_lt b hp; omega) (by omega) (by omega)
        refine ⟨z, ?_⟩
        rw [hz, eg, Nat.gcd_comm b (a % b), Nat.gcd_rec (a % b) b, Nat.gcd_comm]
theorem cd_f {a b : Nat} (ha : a < 2 ^ 63) (hb : b < 2 ^ 63) : f_X0_commonDivisor (lN a) (lN b) = some (lN (Nat.gcd a b)) := by
  unfold f_X0_commonDivisor
  simp only [nm]
  obtain ⟨z, hz⟩ := cd_all 63 a b 0 FU hb ha hb (by decide) (by have := FU_ge; omega)
  rw [show (0 : Int32) = nI 0 from rfl, hz]
  rfl
/-- a side of a fraction in least terms -/
def fr_side (a b : Nat) (z : Int32) : Int64 := if z = 0 then lN (a / Nat.gcd a b) else lN (b / Nat.gcd a b)
theorem side6 {a b : Nat} {z : Int32} (ha : a < 2 ^ 63) (h0 : 0 < b) (hb : b < 2 ^ 63) : f_X6_side (lN a) (lN b) z = some (fr_side a b z) := by
  unfold f_X6_side fr_side
  rw [me_f ha hb]
  have hg : 0 < Nat.gcd a b := Nat.gcd_pos_of_pos_right a h0
  have hg2 : Nat.gcd a b < 2 ^ 63 := Nat.lt_of_le_of_lt (Nat.le_of_dvd h0 (Nat.gcd_dvd_right a b)) hb
  simp only [Option.bind_some, nm]
  by_cases hz : z = 0
  · rw [if_pos hz, if_pos hz, dzL_n hg hg2, pk_lDiv ha hg hg2]
  · rw [if_neg hz, if_neg hz, dzL_n hg hg2, pk_lDiv hb hg hg2]
theorem side0 {a b : Nat} {z : Int32} (ha : a < 2 ^ 63) (h0 : 0 < b) (hb : b < 2 ^ 63) : f_X0_sideOf (lN a) (lN b) z = some (fr_side a b z) := by
  unfold f_X0_sideOf fr_side
  have hg : 0 < Nat.gcd a b := Nat.gcd_pos_of_pos_right a h0
  have hg2 : Nat.gcd a b < 2 ^ 63 := Nat.lt_of_le_of_lt (Nat.le_of_dvd h0 (Nat.gcd_dvd_right a b)) hb
  rcases Nat.eq_zero_or_pos a with rfl | ha0
  · rw [if_pos ((c_le _ _).mpr (by rw [l0, pk_lLE (by decide) (by decide)]; omega)), Nat.gcd_zero_left, Nat.zero_div, Nat.div_self h0]
    by_cases hz : z = 0
    · rw [if_pos hz, if_pos hz]; rfl
    · rw [if_neg hz, if_neg hz]; rfl
  · rw [if_neg (fun h => by rw [c_le, l0, pk_lLE ha (by decide)] at h; omega), if_pos ((c_gt _ _).mpr (by rw [l0, pk_lLT (by decide) hb]; exact h0)), cd_f ha hb]
    simp only [Option.bind_some, nm]
    rw [if_pos ((c_gt _ _).mpr (by rw [l0, pk_lLT (by decide) hg2]; exact hg))]
    by_cases hz : z = 0
    · rw [if_pos hz, if_pos hz, dzL_n hg hg2, pk_lDiv ha hg hg2]
    · rw [if_neg hz, if_neg hz, dzL_n hg hg2, pk_lDiv hb hg hg2]
theorem side0_z {b : Int64} {z : Int32} : f_X0_sideOf (lN 0) b z = some (if z = 0 then 0 else 1) := by
  unfold f_X0_sideOf
  rw [if_pos ((c_le _ _).mpr (by rw [l0, pk_lLE (by decide) (by decide)]; omega))]
  by_cases hz : z = 0
  · rw [if_pos hz, if_pos hz]
  · rw [if_neg hz, if_neg hz]
theorem side6_z {z : Int32} : f_X6_side (lN 0) (lN 1) z = some (if z = 0 then 0 else 1) := by
  rw [side6 (by decide) (by decide) (by decide)]
  unfold fr_side
  by_cases hz : z = 0
  · rw [if_pos hz, if_pos hz]; rfl
  · rw [if_neg hz, if_neg hz]; rfl
/-- comparing of fractions -/
theorem dv_lt {a b c d : Nat} (hb : 0 < b) (hd : 0 < d) (h : a / b < c / d) : a * d < c * b := by
  have h1 : a < b * (a / b + 1) := Nat.lt_mul_div_succ a hb
  have h2 : d * (c / d) ≤ c := Nat.mul_div_le c d
  calc a * d < b * (a / b + 1) * d := Nat.mul_lt_mul_of_pos_right h1 hd
    _ ≤ b * (c / d) * d := Nat.mul_le_mul_right d (Nat.mul_le_mul_left b h)
    _ = b * (d * (c / d)) := by rw [Nat.mul_assoc, Nat.mul_comm (c / d) d]
    _ ≤ b * c := Nat.mul_le_mul_left b h2
    _ = c * b := Nat.mul_comm ..
theorem dv_eq {a b c d : Nat} (h : a / b = c / d) : (c * b < a * d ↔ (c % d) * b < (a % b) * d) := by
  have ea := Nat.div_add_mod a b
  have ec := Nat.div_add_mod c d
  rw [← h] at ec
  generalize a / b = q at ea ec
  generalize a % b = r at ea ⊢
  generalize c % d = s at ec ⊢
  subst ea ec
  rw [Nat.add_mul, Nat.add_mul, show d * q * b = b * q * d by rw [Nat.mul_comm d q, Nat.mul_comm b q, Nat.mul_assoc, Nat.mul_assoc, Nat.mul_comm d b]]
  omega
theorem lrem {a b : Nat} (ha : a < 2 ^ 63) (h0 : 0 < b) (hb : b < 2 ^ 63) : lN a - lN (a / b) * lN b = lN (a % b) := by
  rw [← pk_lDiv ha h0 hb]
  exact pk_lRem ha h0 hb
theorem ab_s {n s a b c d : Nat} (hs : s < 200) (ha : a < 2 ^ 63) (hb : b < 2 ^ 63) (hc : c < 2 ^ 63) (hd : d < 2 ^ 63) (b0 : 0 < b) (d0 : 0 < d) :
    f_X0_isAbove_L17 (n + 1) (nI s) (lN d) (lN c) (lN b) (lN a) = if a / b = c / d ∧ a % b ≠ 0 ∧ c % d ≠ 0 then f_X0_isAbove_L17 n (nI (s + 1)) (lN (a % b)) (lN b) (lN (c % d)) (lN d) else some (.inl (if c * b < a * d then 1 else 0)) := by
  have qa : a / b < 2 ^ 63 := Nat.lt_of_le_of_lt (Nat.div_le_self a b) ha
  have qc : c / d < 2 ^ 63 := Nat.lt_of_le_of_lt (Nat.div_le_self c d) hc
  have ra : a % b < 2 ^ 63 := Nat.lt_trans (Nat.mod_lt a b0) hb
  have rc : c % d < 2 ^ 63 := Nat.lt_trans (Nat.mod_lt c d0) hd
  rw [f_X0_isAbove_L17.eq_2, if_neg (show ¬ (200 : Int32) ≤ nI s from nI_ge (b := 200) hs (by decide)), if_neg (fun h => by rw [c_le, l0, pk_lLE hb (by decide)] at h; omega), if_neg (fun h => by rw [c_le, l0, pk_lLE hd (by decide)] at h; omega)]
  simp only [dzL_n b0 hb, dzL_n d0 hd, nm, pk_lDiv ha b0 hb, pk_lDiv hc d0 hd, lrem ha b0 hb, lrem hc d0 hd, c_eq, c_le, l0, pk_lEQ qa qc, pk_lLE qa qc, pk_lEQ ra (show 0 < 2 ^ 63 by decide), pk_lEQ rc (show 0 < 2 ^ 63 by decide), pk_lLE ra rc, nI_1]
  by_cases hq : a / b = c / d
  · rw [if_pos hq]
    have key := dv_eq hq
    by_cases h1 : a % b = 0
    · rw [if_pos h1, if_neg (show ¬ (a / b = c / d ∧ a % b ≠ 0 ∧ c % d ≠ 0) from fun h => h.2.1 h1), if_neg (show ¬ c * b < a * d by rw [key, h1]; omega), if_pos (show a % b ≤ c % d by rw [h1]; exact Nat.zero_le _)]
    · rw [if_neg h1]
      by_cases h2 : c % d = 0
      · have h3 : 0 < a % b * d := Nat.mul_pos (by omega) d0
        rw [if_pos h2, if_neg (show ¬ (a / b = c / d ∧ a % b ≠ 0 ∧ c % d ≠ 0) from fun h => h.2.2 h2), if_pos (show c * b < a * d by rw [key, h2]; omega), if_neg (show ¬ a % b ≤ c % d by rw [h2]; omega)]
      · rw [if_neg h2, if_pos ⟨hq, h1, h2⟩]
  · rw [if_neg hq, if_neg (show ¬ (a / b = c / d ∧ a % b ≠ 0 ∧ c % d ≠ 0) from fun h => hq h.1)]
    by_cases h3 : a / b ≤ c / d
    · have h4 : a * d < c * b := dv_lt b0 d0 (by omega)
      rw [if_pos h3, if_neg (show ¬ c * b < a * d by omega)]
    · have h4 : c * b < a * d := dv_lt d0 b0 (by omega)
      rw [if_neg h3, if_pos h4]
theorem ab_all : ∀ (k a b c d s n : Nat), b < 2 ^ k → a < 2 ^ 63 → b < 2 ^ 63 → c < 2 ^ 63 → d < 2 ^ 63 → 0 < b → 0 < d → s + 2 * k ≤ 200 → 2 * k ≤ n → f_X0_isAbove_L17 n (nI s) (lN d) (lN c) (lN b) (lN a) = some (.inl (if c * b < a * d then 1 else 0)) := by
  intro k
  induction k with
  | zero => intro a b c d s n hb _ _ _ _ b0; exact absurd hb (by omega)
  | succ k ih =>
    intro a b c d s n hk ha hb hc hd b0 d0 hs hn
    obtain ⟨n, rfl⟩ : ∃ m, n = m + 2 := ⟨n - 2, by omega⟩
    have ra : a % b < b := Nat.mod_lt a b0
    have rc : c % d < d := Nat.mod_lt c d0
    rw [ab_s (by omega) ha hb hc hd b0 d0]
    by_cases h : a / b = c / d ∧ a % b ≠ 0 ∧ c % d ≠ 0
    · obtain ⟨hq, h1, h2⟩ := h
      rw [if_pos ⟨hq, h1, h2⟩, ab_s (by omega) hd (by omega) hb (by omega) (by omega) (by omega)]
      have key : (b * (c % d) < d * (a % b)) ↔ c * b < a * d := by rw [dv_eq hq, Nat.mul_comm b, Nat.mul_comm d]
      by_cases g : d / (c % d) = b / (a % b) ∧ d % (c % d) ≠ 0 ∧ b % (a % b) ≠ 0
      · obtain ⟨gq, g1, g2⟩ := g
        have m1 : d % (c % d) < c % d := Nat.mod_lt _ (by omega)
        have m2 : b % (a % b) < a % b := Nat.mod_lt _ (by omega)
        have m3 := half_mod (b := b) (r := a % b) (by omega) ra
        rw [if_pos ⟨gq, g1, g2⟩, ih _ _ _ _ _ _ (by rw [Nat.pow_succ] at hk; omega) (by omega) (by omega) (by omega) (by omega) (by omega) (by omega) (by omega) (by omega)]
        have key2 : ((c % d) * (b % (a % b)) < (a % b) * (d % (c % d))) ↔ b * (c % d) < d * (a % b) := by rw [dv_eq gq, Nat.mul_comm (c % d), Nat.mul_comm (a % b)]
        simp only [key2, key]
      · rw [if_neg g]
        simp only [key]
    · rw [if_neg h]
theorem above0 {a b c d : Nat} (ha : a < 2 ^ 63) (hb : b < 2 ^ 63) (hc : c < 2 ^ 63) (hd : d < 2 ^ 63) (b0 : 0 < b) (d0 : 0 < d) : f_X0_isAbove (lN a) (lN b) (lN c) (lN d) = some (if c * b < a * d then 1 else 0) := by
  unfold f_X0_isAbove
  simp only [nm]
  rw [show (0 : Int32) = nI 0 from rfl, ab_all 63 a b c d 0 FU hb ha hb hc hd b0 d0 (by decide) (by have := FU_ge; omega)]
  rfl
/-- .. the reference's way, with a sense that turns -/
def fin6 (r9 : (Int32) ⊕ (Int32 × Int64 × Int64 × Int64 × Int64)) : Option Int32 := match r9 with
  | .inl r9 => some r9
  | .inr (z16, z14, z12, z10, z8) =>
    if (lg_cmp z10 z14) = 0 then some 0
    else if (lg_cmp z10 0) = 0 then (if 1 = z16 then some 0 else some 1)
    else (if 0 = z16 then some 0 else some 1)
theorem a6_fin (a b c d : Int64) : f_X6_isAbove a b c d = Option.bind (f_X6_isAbove_L17 FU 0 d c b a) fin6 := by
  unfold f_X6_isAbove
  simp only [nm]
  congr 1
/-- t: the sense is turned -/
def ans6 (t : Bool) (p q r s : Nat) : Int32 := if (if t then p * s < r * q else r * q < p * s) then 1 else 0
def tI (t : Bool) : Int32 := if t then 1 else 0
theorem a6_0 {n p q r s : Nat} {t : Bool} (hq : q < 2 ^ 63) (hs : s < 2 ^ 63) (h : q = 0 ∨ s = 0) (hp : q = 0 → 0 < p) (hr : s = 0 → 0 < r) : Option.bind (f_X6_isAbove_L17 (n + 1) (tI t) (lN s) (lN r) (lN q) (lN p)) fin6 = some (ans6 t p q r s) := by
  have e1 : f_X6_isAbove_L17 (n + 1) (tI t) (lN s) (lN r) (lN q) (lN p) = some (.inr (tI t, lN s, lN r, lN q, lN p)) := by
    rw [f_X6_isAbove_L17.eq_2]
    by_cases h1 : q = 0
    · rw [if_pos (by rw [c_eq, l0, pk_lEQ hq (by decide)]; exact h1)]
    · rw [if_neg (by rw [c_eq, l0, pk_lEQ hq (by decide)]; exact h1), if_pos (by rw [c_eq, l0, pk_lEQ hs (by decide)]; omega)]
  rw [e1, Option.bind_some]
  simp only [fin6, c_eq, l0, pk_lEQ hq hs, pk_lEQ hq (show 0 < 2 ^ 63 by decide)]
  unfold ans6 tI
  by_cases h1 : q = 0
  · have hp := hp h1
    by_cases h2 : s = 0
    · rw [if_pos (by omega)]
      subst h1 h2
      cases t <;> simp
    · have h3 : 0 < p * s := Nat.mul_pos hp (by omega)
      rw [if_neg (by omega), if_pos h1]
      subst h1
      cases t
      · simp [h3]
      · simp
  · have h2 : s = 0 := by omega
    have hr := hr h2
    have h3 : 0 < r * q := Nat.mul_pos hr (by omega)
    rw [if_neg (by omega), if_neg h1]
    subst h2
    cases t
    · simp
    · simp [h3]
theorem a6_s {n p q r s : Nat} {t : Bool} (hp : p < 2 ^ 63) (hq : q < 2 ^ 63) (hr : r < 2 ^ 63) (hs : s < 2 ^ 63) (q0 : 0 < q) (s0 : 0 < s) :
    f_X6_isAbove_L17 (n + 1) (tI t) (lN s) (lN r) (lN q) (lN p) = if p / q = r / s then f_X6_isAbove_L17 n (tI (!t)) (lN (r % s)) (lN s) (lN (p % q)) (lN q) else some (.inl (ans6 t p q r s)) := by
  have qa : p / q < 2 ^ 63 := Nat.lt_of_le_of_lt (Nat.div_le_self p q) hp
  have qc : r / s < 2 ^ 63 := Nat.lt_of_le_of_lt (Nat.div_le_self r s) hr
  rw [f_X6_isAbove_L17.eq_2, if_neg (fun h => by rw [c_eq, l0, pk_lEQ hq (by decide)] at h; omega), if_neg (fun h => by rw [c_eq, l0, pk_lEQ hs (by decide)] at h; omega)]
  simp only [dzL_n q0 hq, dzL_n s0 hs, nm, pk_lDiv hp q0 hq, pk_lDiv hr s0 hs, lrem hp q0 hq, lrem hr s0 hs, c_eq, c_le, pk_lEQ qa qc, pk_lLE qa qc]
  by_cases h : p / q = r / s
  · rw [if_pos h, if_pos h]
    cases t <;> simp [tI]
  · rw [if_neg h, if_neg h]
    unfold ans6 tI
    by_cases h2 : p / q ≤ r / s
    · have h3 : p * s < r * q := dv_lt q0 s0 (by omega)
      rw [if_pos h2]
      cases t
      · simp [Nat.not_lt.mpr (Nat.le_of_lt h3)]
      · simp [h3]
    · have h3 : r * q < p * s := dv_lt s0 q0 (by omega)
      rw [if_neg h2]
      cases t
      · simp [h3]
      · simp [Nat.not_lt.mpr (Nat.le_of_lt h3)]
theorem a6_turn {p q r s : Nat} {t : Bool} (h : p / q = r / s) : ans6 (!t) q (p % q) s (r % s) = ans6 t p q r s := by
  have k1 := dv_eq h
  have k2 := dv_eq h.symm
  unfold ans6
  have e1 : (q * (r % s) < s * (p % q)) ↔ r * q < p * s := by rw [k1, Nat.mul_comm q, Nat.mul_comm s]
  have e2 : (s * (p % q) < q * (r % s)) ↔ p * s < r * q := by rw [k2, Nat.mul_comm q, Nat.mul_comm s]
  cases t
  · simp [e1]
  · simp [e2]
theorem a6_all : ∀ (k p q r s n : Nat) (t : Bool), q < 2 ^ k → p < 2 ^ 63 → q < 2 ^ 63 → r < 2 ^ 63 → s < 2 ^ 63 → (q = 0 → 0 < p) → (s = 0 → 0 < r) → 2 * k + 1 ≤ n → Option.bind (f_X6_isAbove_L17 n (tI t) (lN s) (lN r) (lN q) (lN p)) fin6 = some (ans6 t p q r s) := by
  intro k
  induction k with
  | zero =>
    intro p q r s n t hk hp hq hr hs h1 h2 hn
    obtain ⟨n, rfl⟩ : ∃ m, n = m + 1 := ⟨n - 1, by omega⟩
    exact a6_0 hq hs (Or.inl (by simpa using hk)) h1 h2
  | succ k ih =>
    intro p q r s n t hk hp hq hr hs h1 h2 hn
    obtain ⟨n, rfl⟩ : ∃ m, n = m + 3 := ⟨n - 3, by omega⟩
    by_cases hz : q = 0 ∨ s = 0
    · exact a6_0 hq hs hz h1 h2
    · have q0 : 0 < q := by omega
      have s0 : 0 < s := by omega
      rw [a6_s hp hq hr hs q0 s0]
      by_cases h : p / q = r / s
      · rw [if_pos h, ← a6_turn h]
        have m1 : p % q < q := Nat.mod_lt p q0
        have m2 : r % s < s := Nat.mod_lt r s0
        by_cases hz2 : p % q = 0 ∨ r % s = 0
        · exact a6_0 (by omega) (by omega) hz2 (fun _ => q0) (fun _ => s0)
        · have m3 := half_mod (b := q) (r := p % q) (by omega) m1
          have m4 : q % (p % q) < p % q := Nat.mod_lt _ (by omega)
          have m5 : s % (r % s) < r % s := Nat.mod_lt _ (by omega)
          rw [a6_s hq (by omega) hs (by omega) (by omega) (by omega)]
          by_cases g : q / (p % q) = s / (r % s)
          · rw [if_pos g, ← a6_turn g]
            exact ih _ _ _ _ _ _ (by rw [Nat.pow_succ] at hk; omega) (by omega) (by omega) (by omega) (by omega) (fun _ => by omega) (fun _ => by omega) (by omega)
          · rw [if_neg g]
            rfl
      · rw [if_neg h]
        rfl
theorem above6 {a b c d : Nat} (ha : a < 2 ^ 63) (hb : b < 2 ^ 63) (hc : c < 2 ^ 63) (hd : d < 2 ^ 63) (b0 : 0 < b) (d0 : 0 < d) : f_X6_isAbove (lN a) (lN b) (lN c) (lN d) = some (if c * b < a * d then 1 else 0) := by
  rw [a6_fin, show (0 : Int32) = tI false from rfl, a6_all 63 a b c d FU false hb ha hb hc hd (fun h => by omega) (fun h => by omega) (by have := FU_ge; omega)]
  rfl
