/-! PURE: best paths -/
/-- the least of 0 .. k at which g is greatest -/
def amF (g : Nat → Nat) : Nat → Nat
  | 0 => 0
  | k + 1 => if g (amF g k) < g (k + 1) then k + 1 else amF g k
theorem amF_le (g : Nat → Nat) : ∀ k, amF g k ≤ k := by
  intro k
  induction k with
  | zero => exact Nat.le_refl 0
  | succ k ih =>
    show (if g (amF g k) < g (k + 1) then k + 1 else amF g k) ≤ k + 1
    split <;> omega
theorem amF_ge (g : Nat → Nat) : ∀ k t, t ≤ k → g t ≤ g (amF g k) := by
  intro k
  induction k with
  | zero => intro t h; rw [show t = 0 by omega]; exact Nat.le_refl _
  | succ k ih =>
    intro t h
    show g t ≤ g (if g (amF g k) < g (k + 1) then k + 1 else amF g k)
    by_cases c : g (amF g k) < g (k + 1)
    · rw [if_pos c]
      by_cases e : t = k + 1
      · rw [e]; exact Nat.le_refl _
      · have := ih t (by omega); omega
    · rw [if_neg c]
      by_cases e : t = k + 1
      · rw [e]; omega
      · exact ih t (by omega)
theorem amF_lt (g : Nat → Nat) : ∀ k t, t < amF g k → g t < g (amF g k) := by
  intro k
  induction k with
  | zero => intro t h; exact absurd h (Nat.not_lt_zero t)
  | succ k ih =>
    intro t h
    have e : amF g (k + 1) = if g (amF g k) < g (k + 1) then k + 1 else amF g k := rfl
    rw [e] at h ⊢
    by_cases c : g (amF g k) < g (k + 1)
    · rw [if_pos c] at h ⊢
      have := amF_ge g k t (by omega)
      omega
    · rw [if_neg c] at h ⊢
      exact ih t h
theorem amF_congr {g f : Nat → Nat} : ∀ k, (∀ t, t ≤ k → g t = f t) → amF g k = amF f k := by
  intro k
  induction k with
  | zero => intro _; rfl
  | succ k ih =>
    intro h
    have e := ih (fun t ht => h t (by omega))
    show (if g (amF g k) < g (k + 1) then k + 1 else amF g k) = if f (amF f k) < f (k + 1) then k + 1 else amF f k
    rw [e, h (amF f k) (by have := amF_le f k; omega), h (k + 1) (Nat.le_refl _)]
/-- one digit more in front: X is bounded by V, first reached at B -/
theorem best_step {k b : Nat} {m V B : Nat → Nat} {X : Nat → Nat → Nat} (hB : ∀ t, t < 4 → B t < 4 ^ k) (h1 : ∀ t q, t < 4 → q < 4 ^ k → X t q ≤ V t) (h2 : ∀ t, t < 4 → X t (B t) = V t) (h3 : ∀ t q, t < 4 → q < B t → 0 < V t → X t q < V t) (hb : b = amF (fun t => m t * V t) 3) :
    (∀ q, q < 4 ^ (k + 1) → m (q / 4 ^ k) * X (q / 4 ^ k) (q % 4 ^ k) ≤ m b * V b) ∧ b * 4 ^ k + B b < 4 ^ (k + 1) ∧ m ((b * 4 ^ k + B b) / 4 ^ k) * X ((b * 4 ^ k + B b) / 4 ^ k) ((b * 4 ^ k + B b) % 4 ^ k) = m b * V b ∧ ∀ q, q < b * 4 ^ k + B b → 0 < m b * V b → m (q / 4 ^ k) * X (q / 4 ^ k) (q % 4 ^ k) < m b * V b := by
  have hp : 0 < 4 ^ k := Nat.pow_pos (by decide)
  have b3 : b ≤ 3 := by rw [hb]; exact amF_le _ 3
  have hBb := hB b (by omega)
  have hpow : (4 : Nat) ^ (k + 1) = 4 ^ k * 4 := Nat.pow_succ ..
  have hlt : b * 4 ^ k + B b < 4 ^ (k + 1) := by
    have : b * 4 ^ k ≤ 3 * 4 ^ k := Nat.mul_le_mul_right _ b3
    omega
  have dv : (b * 4 ^ k + B b) / 4 ^ k = b := by
    rw [Nat.mul_comm, Nat.mul_add_div hp, Nat.div_eq_of_lt hBb, Nat.add_zero]
  have md : (b * 4 ^ k + B b) % 4 ^ k = B b := by
    rw [Nat.mul_comm, Nat.mul_add_mod, Nat.mod_eq_of_lt hBb]
  have ge : ∀ t, t ≤ 3 → m t * V t ≤ m b * V b := fun t ht => by rw [hb]; exact amF_ge (fun t => m t * V t) 3 t ht
  have lt : ∀ t, t < b → m t * V t < m b * V b := fun t ht => by rw [hb] at ht ⊢; exact amF_lt (fun t => m t * V t) 3 t ht
  have dlt : ∀ q, q < 4 ^ (k + 1) → q / 4 ^ k < 4 := fun q hq => (Nat.div_lt_iff_lt_mul hp).mpr (by rw [Nat.mul_comm, ← hpow]; exact hq)
  refine ⟨fun q hq => ?_, hlt, ?_, fun q hq hpos => ?_⟩
  · have ht := dlt q hq
    exact Nat.le_trans (Nat.mul_le_mul_left _ (h1 _ _ ht (Nat.mod_lt q hp))) (ge _ (by omega))
  · rw [dv, md, h2 b (by omega)]
  · have ht := dlt q (by omega)
    have hq2 := Nat.div_add_mod q (4 ^ k)
    have hm := Nat.mod_lt q hp
    generalize hT : q / 4 ^ k = t at ht hq2
    generalize hR : q % 4 ^ k = z at hm hq2
    have hle : t ≤ b := by
      rcases Nat.lt_or_ge b t with c | c
      · have c1 : 4 ^ k * (b + 1) ≤ 4 ^ k * t := Nat.mul_le_mul_left _ c
        rw [Nat.mul_add, Nat.mul_one, Nat.mul_comm (4 ^ k) b] at c1
        omega
      · exact c
    rcases Nat.lt_or_ge t b with c | c
    · exact Nat.lt_of_le_of_lt (Nat.mul_le_mul_left _ (h1 _ _ ht hm)) (lt t c)
    · have e : t = b := by omega
      subst e
      have hz : z < B t := by
        rw [Nat.mul_comm] at hq2
        omega
      have hv : 0 < V t := Nat.pos_of_mul_pos_left hpos
      have hmp : 0 < m t := Nat.pos_of_mul_pos_right hpos
      exact Nat.mul_lt_mul_of_pos_left (h3 t z ht hz hv) hmp
section B0
variable (S : Nat → Nat) (M G : Nat → Nat → Nat) (n : Nat)
/-- what a path weighs behind a state, k places before the end -/
def RW : Nat → Nat → Nat → Nat
  | 0, _, _ => 1
  | k + 1, s, q => M s (q / 4 ^ k) * (G (n - 1 - k) (q / 4 ^ k) * RW k (q / 4 ^ k) (q % 4 ^ k))
def VW : Nat → Nat → Nat
  | 0, s => G (n - 1) s
  | k + 1, s => G (n - 1 - (k + 1)) s * (M s (amF (fun t => M s t * VW k t) 3) * VW k (amF (fun t => M s t * VW k t) 3))
/-- the best state behind s, k + 1 places before the end -/
def bo (k s : Nat) : Nat := amF (fun t => M s t * VW M G n k t) 3
def BQ : Nat → Nat → Nat
  | 0, _ => 0
  | k + 1, s => bo M G n k s * 4 ^ k + BQ k (bo M G n k s)
theorem VW_s (k s : Nat) : VW M G n (k + 1) s = G (n - 1 - (k + 1)) s * (M s (bo M G n k s) * VW M G n k (bo M G n k s)) := rfl
theorem bo_lt (k s : Nat) : bo M G n k s < 4 := by
  have := amF_le (fun t => M s t * VW M G n k t) 3
  unfold bo
  omega
theorem BQ_lt : ∀ k s, BQ M G n k s < 4 ^ k := by
  intro k
  induction k with
  | zero => intro s; exact Nat.one_pos
  | succ k ih =>
    intro s
    have h1 := bo_lt M G n k s
    have h2 := ih (bo M G n k s)
    show bo M G n k s * 4 ^ k + BQ M G n k (bo M G n k s) < 4 ^ (k + 1)
    have h3 : bo M G n k s * 4 ^ k ≤ 3 * 4 ^ k := Nat.mul_le_mul_right _ (by omega)
    rw [Nat.pow_succ]
    omega
theorem VW_best : ∀ k, (∀ s q, s < 4 → q < 4 ^ k → G (n - 1 - k) s * RW M G n k s q ≤ VW M G n k s) ∧ (∀ s, s < 4 → G (n - 1 - k) s * RW M G n k s (BQ M G n k s) = VW M G n k s) ∧ ∀ s q, s < 4 → q < BQ M G n k s → 0 < VW M G n k s → G (n - 1 - k) s * RW M G n k s q < VW M G n k s := by
  intro k
  induction k with
  | zero =>
    refine ⟨fun s q _ _ => ?_, fun s _ => ?_, fun s q _ hq _ => absurd hq (Nat.not_lt_zero q)⟩
    · show G (n - 1 - 0) s * 1 ≤ G (n - 1) s
      rw [Nat.mul_one]
      exact Nat.le_refl _
    · show G (n - 1 - 0) s * 1 = G (n - 1) s
      rw [Nat.mul_one]
      rfl
  | succ k ih =>
    obtain ⟨h1, h2, h3⟩ := ih
    have key : ∀ s, _ := fun s => best_step (k := k) (b := bo M G n k s) (m := M s) (V := VW M G n k) (B := BQ M G n k) (X := fun t q => G (n - 1 - k) t * RW M G n k t q) (fun t _ => BQ_lt M G n k t) h1 h2 h3 rfl
    refine ⟨fun s q _ hq => ?_, fun s _ => ?_, fun s q _ hq hpos => ?_⟩
    · rw [VW_s]
      exact Nat.mul_le_mul_left _ ((key s).1 q hq)
    · rw [VW_s, ← (key s).2.2.1]
      rfl
    · rw [VW_s] at hpos ⊢
      exact Nat.mul_lt_mul_of_pos_left ((key s).2.2.2 q hq (Nat.pos_of_mul_pos_left hpos)) (Nat.pos_of_mul_pos_right hpos)
/-- a path's weight from its start and from its end -/
theorem PW_RW (p : Nat) : ∀ k, k < n → PW S M G n p = PW S M G (n - k) (p / 4 ^ k) * RW M G n k (p / 4 ^ k % 4) (p % 4 ^ k) := by
  intro k
  induction k with
  | zero =>
    intro _
    show _ = PW S M G n (p / 4 ^ 0) * 1
    rw [Nat.pow_zero, Nat.div_one, Nat.mul_one]
  | succ k ih =>
    intro h
    rw [ih (by omega)]
    have e1 : n - k = (n - (k + 1)) + 1 := by omega
    have e2 : p / 4 ^ (k + 1) = p / 4 ^ k / 4 := by rw [Nat.div_div_eq_div_mul, Nat.pow_succ]
    have e3 : p % 4 ^ (k + 1) / 4 ^ k = p / 4 ^ k % 4 := by rw [Nat.pow_succ, Nat.mod_mul_right_div_self]
    have e4 : p % 4 ^ (k + 1) % 4 ^ k = p % 4 ^ k := by rw [Nat.pow_succ, Nat.mod_mul_right_mod]
    rw [e1]
    show PW S M G (n - (k + 1)) (p / 4 ^ k / 4) * ((if n - (k + 1) = 0 then _ else M (p / 4 ^ k / 4 % 4) (p / 4 ^ k % 4)) * G (n - (k + 1)) (p / 4 ^ k % 4)) * _ = PW S M G (n - (k + 1)) (p / 4 ^ (k + 1)) * (M (p / 4 ^ (k + 1) % 4) (p % 4 ^ (k + 1) / 4 ^ k) * (G (n - 1 - k) (p % 4 ^ (k + 1) / 4 ^ k) * RW M G n k (p % 4 ^ (k + 1) / 4 ^ k) (p % 4 ^ (k + 1) % 4 ^ k)))
    rw [if_neg (by omega), e2, e3, e4, show n - 1 - k = n - (k + 1) by omega]
    simp only [Nat.mul_assoc]
/-- the best start, and the best path -/
def bS : Nat := amF (fun t => S t * VW M G n (n - 1) t) 3
def bP : Nat := bS S M G n * 4 ^ (n - 1) + BQ M G n (n - 1) (bS S M G n)
def bV : Nat := S (bS S M G n) * VW M G n (n - 1) (bS S M G n)
theorem bP_all (h0 : 0 < n) : (∀ q, q < 4 ^ n → PW S M G n q ≤ bV S M G n) ∧ bP S M G n < 4 ^ n ∧ PW S M G n (bP S M G n) = bV S M G n ∧ ∀ q, q < bP S M G n → 0 < bV S M G n → PW S M G n q < bV S M G n := by
  obtain ⟨k, rfl⟩ : ∃ k, n = k + 1 := ⟨n - 1, by omega⟩
  obtain ⟨h1, h2, h3⟩ := VW_best M G (k + 1) k
  have key := best_step (k := k) (b := bS S M G (k + 1)) (m := S) (V := VW M G (k + 1) k) (B := BQ M G (k + 1) k) (X := fun t q => G (k + 1 - 1 - k) t * RW M G (k + 1) k t q) (fun t _ => BQ_lt M G (k + 1) k t) h1 h2 h3 rfl
  have e : ∀ q, q < 4 ^ (k + 1) → PW S M G (k + 1) q = S (q / 4 ^ k) * (G (k + 1 - 1 - k) (q / 4 ^ k) * RW M G (k + 1) k (q / 4 ^ k) (q % 4 ^ k)) := by
    intro q hq
    have hd : q / 4 ^ k < 4 := (Nat.div_lt_iff_lt_mul (Nat.pow_pos (by decide))).mpr (by rw [Nat.mul_comm, ← Nat.pow_succ]; exact hq)
    rw [PW_RW S M G (k + 1) q k (by omega), show k + 1 - k = 0 + 1 by omega]
    show PW S M G 0 _ * ((if 0 = 0 then S (q / 4 ^ k % 4) else _) * G 0 (q / 4 ^ k % 4)) * _ = _
    rw [if_pos rfl, Nat.mod_eq_of_lt hd, show k + 1 - 1 - k = 0 by omega]
    show 1 * _ * _ = _
    rw [Nat.one_mul, Nat.mul_assoc]
  obtain ⟨a1, a2, a3, a4⟩ := key
  have a2 : bP S M G (k + 1) < 4 ^ (k + 1) := a2
  refine ⟨fun q hq => ?_, a2, ?_, fun q hq hp => ?_⟩
  · rw [e q hq]; exact a1 q hq
  · rw [e _ a2]; exact a3
  · rw [e q (by omega)]; exact a4 q hq hp
/-- the states of the best path -/
def bp : Nat → Nat
  | 0 => bS S M G n
  | i + 1 => bo M G n (n - 1 - (i + 1)) (bp i)
theorem bp_lt : ∀ i, bp S M G n i < 4 := by
  intro i
  cases i with
  | zero => have := amF_le (fun t => S t * VW M G n (n - 1) t) 3; show bS S M G n < 4; unfold bS; omega
  | succ i => exact bo_lt M G n _ _
theorem bp_all (h0 : 0 < n) : ∀ i, i < n → bP S M G n / 4 ^ (n - 1 - i) % 4 = bp S M G n i ∧ bP S M G n % 4 ^ (n - 1 - i) = BQ M G n (n - 1 - i) (bp S M G n i) := by
  intro i
  induction i with
  | zero =>
    intro _
    have hB := BQ_lt M G n (n - 1) (bS S M G n)
    have hb : bS S M G n < 4 := bp_lt S M G n 0
    show bP S M G n / 4 ^ (n - 1) % 4 = bS S M G n ∧ bP S M G n % 4 ^ (n - 1) = BQ M G n (n - 1) (bS S M G n)
    unfold bP
    rw [Nat.mul_comm, Nat.mul_add_div (Nat.pow_pos (by decide)), Nat.div_eq_of_lt hB, Nat.add_zero, Nat.mod_eq_of_lt hb, Nat.mul_add_mod, Nat.mod_eq_of_lt hB]
    exact ⟨rfl, rfl⟩
  | succ i ih =>
    intro h
    obtain ⟨_, e⟩ := ih (by omega)
    obtain ⟨k, hk⟩ : ∃ k, n - 1 - i = k + 1 := ⟨n - 1 - i - 1, by omega⟩
    have hk2 : n - 1 - (i + 1) = k := by omega
    have eb : bp S M G n (i + 1) = bo M G n k (bp S M G n i) := by show bo M G n (n - 1 - (i + 1)) _ = _; rw [hk2]
    rw [hk] at e
    have e : bP S M G n % 4 ^ (k + 1) = bo M G n k (bp S M G n i) * 4 ^ k + BQ M G n k (bo M G n k (bp S M G n i)) := e
    have hB := BQ_lt M G n k (bo M G n k (bp S M G n i))
    rw [hk2, eb]
    have e3 : bP S M G n % 4 ^ (k + 1) / 4 ^ k = bP S M G n / 4 ^ k % 4 := by rw [Nat.pow_succ, Nat.mod_mul_right_div_self]
    have e4 : bP S M G n % 4 ^ (k + 1) % 4 ^ k = bP S M G n % 4 ^ k := by rw [Nat.pow_succ, Nat.mod_mul_right_mod]
    rw [← e3, ← e4, e, Nat.mul_comm, Nat.mul_add_div (Nat.pow_pos (by decide)), Nat.div_eq_of_lt hB, Nat.add_zero, Nat.mul_add_mod, Nat.mod_eq_of_lt hB]
    exact ⟨rfl, rfl⟩
theorem VW_le {b : Nat} (hM : ∀ s t, s < 4 → t < 4 → M s t ≤ b) (hG : ∀ i s, s < 4 → G i s ≤ b) : ∀ k s, s < 4 → VW M G n k s ≤ b ^ (2 * k + 1) := by
  intro k
  induction k with
  | zero => intro s hs; show G (n - 1) s ≤ b ^ 1; rw [Nat.pow_one]; exact hG _ _ hs
  | succ k ih =>
    intro s hs
    rw [VW_s]
    have hb := bo_lt M G n k s
    rw [show 2 * (k + 1) + 1 = (2 * k + 1) + 1 + 1 by omega, Nat.pow_succ, Nat.pow_succ, Nat.mul_comm (b ^ (2 * k + 1) * b) b, Nat.mul_comm (b ^ (2 * k + 1)) b]
    exact Nat.mul_le_mul (hG _ _ hs) (Nat.mul_le_mul (hM _ _ hs hb) (ih _ hb))
end B0
