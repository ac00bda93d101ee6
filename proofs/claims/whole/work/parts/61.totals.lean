/-! PURE: what paths weigh -/
section T0
variable (S : Nat → Nat) (M G : Nat → Nat → Nat)
/-- what a path of j states weighs, whose number is q -/
def PW : Nat → Nat → Nat
  | 0, _ => 1
  | j + 1, q => PW j (q / 4) * ((if j = 0 then S (q % 4) else M (q / 4 % 4) (q % 4)) * G j (q % 4))
/-- what all paths to a state at place i weigh -/
def FD : Nat → Nat → Nat
  | 0, s => S s * G 0 s
  | i + 1, s => (FD i 0 * M 0 s + FD i 1 * M 1 s + FD i 2 * M 2 s + FD i 3 * M 3 s) * G (i + 1) s
def s4 (g : Nat → Nat) : Nat := g 0 + g 1 + g 2 + g 3
theorem sg_split {g : Nat → Nat} : ∀ (a b i : Nat), sg g i (a + b) = sg g i a + sg g (i + a) b := by
  intro a
  induction a with
  | zero => intro b i; simp [sg]
  | succ a ih =>
    intro b i
    rw [show a + 1 + b = (a + b) + 1 by omega]
    show g i + sg g (i + 1) (a + b) = g i + sg g (i + 1) a + sg g (i + (a + 1)) b
    rw [ih, show i + 1 + a = i + (a + 1) by omega]
    omega
theorem sg_4 {g : Nat → Nat} : ∀ (N i : Nat), sg g (4 * i) (4 * N) = sg (fun q => s4 (fun s => g (4 * q + s))) i N := by
  intro N
  induction N with
  | zero => intro i; rfl
  | succ N ih =>
    intro i
    rw [show 4 * (N + 1) = 4 + 4 * N by omega, sg_split, show 4 * i + 4 = 4 * (i + 1) by omega, ih]
    show g (4 * i) + (g (4 * i + 1) + (g (4 * i + 1 + 1) + (g (4 * i + 1 + 1 + 1) + 0))) + _ = s4 (fun s => g (4 * i + s)) + _
    unfold s4
    simp only [Nat.add_zero, Nat.add_assoc]
theorem sg_mulr {g : Nat → Nat} (c : Nat) : ∀ (m i : Nat), sg (fun w => g w * c) i m = sg g i m * c := by
  intro m
  induction m with
  | zero => intro i; simp [sg]
  | succ m ih =>
    intro i
    show g i * c + sg _ (i + 1) m = (g i + sg g (i + 1) m) * c
    rw [ih, Nat.add_mul]
theorem PW_sum : ∀ (i : Nat) (c : Nat → Nat), sg (fun p => PW S M G (i + 1) p * c (p % 4)) 0 (4 ^ (i + 1)) = s4 (fun s => FD S M G i s * c s) := by
  intro i
  induction i with
  | zero =>
    intro c
    rw [show (4 : Nat) ^ (0 + 1) = 4 * 1 by decide]
    have := sg_4 (g := fun p => PW S M G (0 + 1) p * c (p % 4)) 1 0
    rw [Nat.mul_zero] at this
    rw [this]
    simp [sg, s4, PW, FD]
  | succ i ih =>
    intro c
    rw [Nat.pow_succ 4 (i + 1), Nat.mul_comm (4 ^ (i + 1)) 4]
    have := sg_4 (g := fun p => PW S M G (i + 1 + 1) p * c (p % 4)) (4 ^ (i + 1)) 0
    rw [Nat.mul_zero] at this
    rw [this]
    have e := ih (fun f => s4 (fun s => M f s * G (i + 1) s * c s))
    have e2 : sg (fun q => s4 (fun s => PW S M G (i + 1 + 1) (4 * q + s) * c ((4 * q + s) % 4))) 0 (4 ^ (i + 1)) = sg (fun p => PW S M G (i + 1) p * s4 (fun s => M (p % 4) s * G (i + 1) s * c s)) 0 (4 ^ (i + 1)) := by
      refine sg_congr _ _ (fun q _ _ => ?_)
      have h : ∀ s, s < 4 → PW S M G (i + 1 + 1) (4 * q + s) * c ((4 * q + s) % 4) = PW S M G (i + 1) q * (M (q % 4) s * G (i + 1) s * c s) := by
        intro s hs
        show PW S M G (i + 1) ((4 * q + s) / 4) * ((if i + 1 = 0 then S ((4 * q + s) % 4) else M ((4 * q + s) / 4 % 4) ((4 * q + s) % 4)) * G (i + 1) ((4 * q + s) % 4)) * c ((4 * q + s) % 4) = _
        rw [if_neg (by omega), show (4 * q + s) / 4 = q by omega, show (4 * q + s) % 4 = s by omega, Nat.mul_assoc]
      unfold s4
      dsimp only
      rw [h 0 (by decide), h 1 (by decide), h 2 (by decide), h 3 (by decide)]
      simp only [Nat.mul_add]
    rw [e2, e]
    unfold s4
    simp only [FD, Nat.mul_add, Nat.add_mul, Nat.mul_assoc]
    omega
theorem PW_total (i : Nat) : sg (PW S M G (i + 1)) 0 (4 ^ (i + 1)) = s4 (FD S M G i) := by
  have := PW_sum S M G i (fun _ => 1)
  simp only [Nat.mul_one] at this
  exact this
theorem PW_le {b : Nat} (hS : ∀ s, s < 4 → S s ≤ b) (hM : ∀ s t, s < 4 → t < 4 → M s t ≤ b) (hG : ∀ i s, s < 4 → G i s ≤ b) : ∀ j q, PW S M G j q ≤ (b * b) ^ j := by
  intro j
  induction j with
  | zero => intro q; exact Nat.le_refl 1
  | succ j ih =>
    intro q
    show PW S M G j (q / 4) * ((if j = 0 then S (q % 4) else M (q / 4 % 4) (q % 4)) * G j (q % 4)) ≤ (b * b) ^ (j + 1)
    rw [Nat.pow_succ]
    refine Nat.mul_le_mul (ih _) (Nat.mul_le_mul ?_ (hG _ _ (by omega)))
    split
    · exact hS _ (by omega)
    · exact hM _ _ (by omega) (by omega)
end T0
/-- only one state at place a -/
def only (a b : Nat) (G : Nat → Nat → Nat) (i s : Nat) : Nat := if i = a ∧ ¬ s = b then 0 else G i s
theorem PW_before (S : Nat → Nat) (M G : Nat → Nat → Nat) (a b : Nat) : ∀ j q, j ≤ a → PW S M (only a b G) j q = PW S M G j q := by
  intro j
  induction j with
  | zero => intro q _; rfl
  | succ j ih =>
    intro q h
    show PW S M (only a b G) j (q / 4) * (_ * only a b G j (q % 4)) = PW S M G j (q / 4) * (_ * G j (q % 4))
    rw [ih _ (by omega), show only a b G j (q % 4) = G j (q % 4) from if_neg (by omega)]
theorem PW_only (S : Nat → Nat) (M G : Nat → Nat → Nat) (a b : Nat) : ∀ j q, a < j → PW S M (only a b G) j q = if q / 4 ^ (j - 1 - a) % 4 = b then PW S M G j q else 0 := by
  intro j
  induction j with
  | zero => intro q h; omega
  | succ j ih =>
    intro q h
    show PW S M (only a b G) j (q / 4) * (_ * only a b G j (q % 4)) = if _ then PW S M G j (q / 4) * (_ * G j (q % 4)) else 0
    by_cases c : j = a
    · subst c
      rw [PW_before S M G j b j _ (Nat.le_refl j), show j + 1 - 1 - j = 0 by omega, Nat.pow_zero, Nat.div_one]
      unfold only
      by_cases d : q % 4 = b
      · rw [if_pos d, if_neg (show ¬ (j = j ∧ ¬ q % 4 = b) from fun x => x.2 d)]
      · rw [if_neg d, if_pos (show j = j ∧ ¬ q % 4 = b from ⟨rfl, d⟩), Nat.mul_zero, Nat.mul_zero]
    · rw [ih _ (by omega), show only a b G j (q % 4) = G j (q % 4) from if_neg (fun x => c x.1), show j + 1 - 1 - a = (j - 1 - a) + 1 by omega, Nat.div_div_eq_div_mul, show 4 * 4 ^ (j - 1 - a) = 4 ^ (j - 1 - a + 1) by rw [Nat.pow_succ, Nat.mul_comm]]
      split
      · rfl
      · rw [Nat.zero_mul]
/-- the state of a path at a place, in the reference -/
theorem so_f {many : Nat → Int32} {r n p i : Nat} (hr : r < 4) (hm : many r = nI n) (hn : n ≤ 5) (hi : i < n) (hp : p < 2 ^ 31) : f_X6_stateOf (nI p) (nI r) (nI i) many = some (nI (p / 4 ^ (n - 1 - i) % 4)) := by
  unfold f_X6_stateOf
  rw [gA_n hr (by decide), hm]
  obtain ⟨n, rfl⟩ : ∃ q, n = q + 1 := ⟨n - 1, by omega⟩
  rw [nI_pred, pk_sub (by omega), show n + 1 - 1 - i = n - i by omega]
  have h : n - i = 0 ∨ n - i = 1 ∨ n - i = 2 ∨ n - i = 3 ∨ n - i = 4 := by omega
  have key : ∀ m k : Nat, k = 2 * m → (((2 * nI m : Int32) &&& 31).toBitVec.smod 32).toNat = k → some ((nI p >>> ((2 * nI m) &&& 31)) &&& 3) = some (nI (p / 4 ^ m % 4)) := by
    intro m k hk hs
    rw [pk_shrN hp _ k hs, pk_andN (Nat.lt_of_le_of_lt (Nat.div_le_self _ _) (by omega)) 2 (by decide), hk, Nat.pow_mul]
  rcases h with e | e | e | e | e <;> rw [e]
  · exact key 0 0 rfl (by decide)
  · exact key 1 2 rfl (by decide)
  · exact key 2 4 rfl (by decide)
  · exact key 3 6 rfl (by decide)
  · exact key 4 8 rfl (by decide)
theorem pa_f {many : Nat → Int32} {r n : Nat} (hr : r < 4) (hm : many r = nI n) (hn : n ≤ 5) (h0 : 0 < n) : f_X6_paths (nI r) many = some (nI (4 ^ n)) := by
  unfold f_X6_paths
  rw [gA_n hr (by decide), gA_n hr (by decide), hm, if_neg (nI_ne0 h0 (by omega))]
  have h : n = 1 ∨ n = 2 ∨ n = 3 ∨ n = 4 ∨ n = 5 := by omega
  rcases h with e | e | e | e | e <;> subst e <;> decide
theorem pa_0 {many : Nat → Int32} {r : Nat} (hr : r < 4) (hm : many r = nI 0) : f_X6_paths (nI r) many = some (nI 0) := by
  unfold f_X6_paths
  rw [gA_n hr (by decide), hm, if_pos (show nI 0 = 0 from rfl)]
  rfl
section T1
variable {weights signs lengths start move sho : Nat → Int32} {len sn W : Nat → Nat}
/-- weights as functions -/
def wM (W : Nat → Nat) (f t : Nat) : Nat := W (4 + f * 4 + t)
def wH (W sn : Nat → Nat) (r i s : Nat) : Nat := W (20 + s * 4 + sn (r * 5 + i))
def wG (W sn : Nat → Nat) (r n i s : Nat) : Nat := if i < n then wH W sn r i s else 0
theorem mv_n (f t : Nat) : (4 + nI f * 4 + nI t : Int32) = nI (4 + f * 4 + t) := by
  rw [show (4 : Int32) = nI 4 from rfl, pk_mul, nI_add, nI_add]
theorem sh_n (f t : Nat) : (20 + nI f * 4 + nI t : Int32) = nI (20 + f * 4 + t) := by
  rw [show (4 : Int32) = nI 4 from rfl, show (20 : Int32) = nI 20 from rfl, pk_mul, nI_add, nI_add]
theorem ix6 (a k j : Nat) : (nI a * nI k + nI j : Int32) = nI (k * a + j) := by rw [pk_mul, nI_add, Nat.mul_comm]
theorem wp_L (hG : wfG signs lengths len sn) (hW : wfW weights start move sho W) {r p : Nat} (hr : r < 4) (hp : p < 2 ^ 31) : ∃ b, b = lN (PW W (wM W) (wG W sn r (len r)) (len r) p) ∧ f_X6_weighPath_L5 (nI p) (nI r) start move sho signs lengths FU (nI 0) (lN 1) = some (nI (len r), b) := by
  obtain ⟨g1, g2⟩ := hG
  obtain ⟨a, b, c, d⟩ := hW
  obtain ⟨k1, k2⟩ := g1 r hr
  have hF := FU_ge
  refine loop_inv (fun fu i (b : Int64) => f_X6_weighPath_L5 (nI p) (nI r) start move sho signs lengths fu i b) (len r) (fun j b => b = lN (PW W (wM W) (wG W sn r (len r)) j (p / 4 ^ (len r - j)))) ?_ ?_ (len r) 0 FU (lN 1) (by omega) (by omega) rfl |>.imp fun b h => ⟨by rw [h.1, Nat.sub_self, Nat.pow_zero, Nat.div_one], h.2⟩
  · intro fu b _
    show f_X6_weighPath_L5 _ _ _ _ _ _ _ (fu + 1) _ _ = _
    rw [f_X6_weighPath_L5.eq_2, gA_n hr (by decide), k1, if_pos (nI_le (Nat.le_refl _) (by omega))]
  · intro fu i v hi hv
    subst hv
    obtain ⟨s1, s2⟩ := g2 r i hr hi
    refine ⟨_, rfl, ?_⟩
    show f_X6_weighPath_L5 _ _ _ _ _ _ _ (fu + 1) _ _ = f_X6_weighPath_L5 _ _ _ _ _ _ _ fu _ _
    rw [f_X6_weighPath_L5.eq_2, gA_n hr (by decide), k1, if_neg (nI_ge hi (by omega)), so_f hr k1 k2 hi hp]
    have hq : p / 4 ^ (len r - i) = p / 4 ^ (len r - (i + 1)) / 4 := by
      rw [Nat.div_div_eq_div_mul, ← Nat.pow_succ, show (len r - (i + 1)).succ = len r - i by omega]
    have e1 : len r - 1 - i = len r - (i + 1) := by omega
    generalize hQ : p / 4 ^ (len r - (i + 1)) = Q at hq
    have hd : Q % 4 < 4 := Nat.mod_lt _ (by decide)
    simp only [Option.bind_some, nm, nI_1]
    rw [e1, hQ, hq]
    have hg : wG W sn r (len r) i (Q % 4) = W (20 + (Q % 4) * 4 + sn (r * 5 + i)) := if_pos hi
    have fin : ∀ x : Nat, lN (PW W (wM W) (wG W sn r (len r)) i (Q / 4)) * lN x * lN (W (20 + (Q % 4 * 4 + sn (r * 5 + i)))) = lN (PW W (wM W) (wG W sn r (len r)) i (Q / 4) * (x * wG W sn r (len r) i (Q % 4))) := by
      intro x
      rw [hg, lN_mul, lN_mul, Nat.mul_assoc, Nat.add_assoc]
    by_cases c0 : i = 0
    · subst c0
      rw [if_pos (show nI 0 = 0 from rfl), gA_n hd (by decide), b _ hd, (a _ (by omega)).1, show (5 : Int32) = nI 5 from rfl, ix6, gA_n (by omega) (by decide), s2, show (4 : Int32) = nI 4 from rfl, ix6, gA_n (by omega) (by decide), d _ (by omega), (a _ (by omega)).1, nI_l (by have := (a (Q % 4) (by omega)).2; omega), nI_l (by have := (a (20 + (Q % 4 * 4 + sn (r * 5 + 0))) (by omega)).2; omega), fin]
      rfl
    · obtain ⟨i, rfl⟩ : ∃ q, i = q + 1 := ⟨i - 1, by omega⟩
      have hd2 : Q / 4 % 4 < 4 := Nat.mod_lt _ (by decide)
      have e2 : p / 4 ^ (len r - 1 - i) = Q / 4 := by rw [← hq, show len r - 1 - i = len r - (i + 1) by omega]
      rw [if_neg (nI_ne0 (by omega) (by omega)), nI_pred, so_f hr k1 k2 (by omega) hp, e2, Option.bind_some]
      rw [show (4 : Int32) = nI 4 from rfl, ix6, gA_n (by omega) (by decide), c _ (by omega), (a _ (by omega)).1, show (5 : Int32) = nI 5 from rfl, ix6, gA_n (by omega) (by decide), s2, ix6, gA_n (by omega) (by decide), d _ (by omega), (a _ (by omega)).1, nI_l (by have := (a (4 + (Q / 4 % 4 * 4 + Q % 4)) (by omega)).2; omega), nI_l (by have := (a (20 + (Q % 4 * 4 + sn (r * 5 + (i + 1)))) (by omega)).2; omega), fin, ← Nat.add_assoc]
      rfl
theorem wp_f (hG : wfG signs lengths len sn) (hW : wfW weights start move sho W) {r p : Nat} (hr : r < 4) (hp : p < 2 ^ 31) : f_X6_weighPath (nI p) (nI r) start move sho signs lengths = some (lN (PW W (wM W) (wG W sn r (len r)) (len r) p)) := by
  obtain ⟨b, e1, e2⟩ := wp_L hG hW hr hp
  unfold f_X6_weighPath
  simp only [nm]
  rw [l1, i0, e2, e1]
  rfl
end T1
