/-! PURE: totals, of both -/
theorem sg_last {g : Nat → Nat} (j : Nat) : sg g 0 (j + 1) = sg g 0 j + g j := by
  rw [sg_split]
  show _ + (g (0 + j) + 0) = _
  rw [Nat.zero_add, Nat.add_zero]
theorem sg_s4 (g : Nat → Nat) : sg g 0 4 = s4 g := by
  show g 0 + (g 1 + (g 2 + (g 3 + 0))) = _
  unfold s4
  omega
/-- a place and a state that are asked for; none, if the place is below 0 -/
def GG (plc st : Int32) (G : Nat → Nat → Nat) (i s : Nat) : Nat := if plc = nI i ∧ ¬ nI s = st then 0 else G i s
section T2
variable {weights signs lengths start move sho : Nat → Int32} {len sn W : Nat → Nat}
theorem shown_f (hG : wfG signs lengths len sn) (hW : wfW weights start move sho W) {r i s : Nat} (hr : r < 4) (hi : i < len r) (hs : s < 4) : f_X1_shown (nI r) (nI i) (nI s) weights signs = some (nI (wG W sn r (len r) i s)) := by
  obtain ⟨s1, s2⟩ := hG.2 r i hr hi
  have h5 := (hG.1 r hr).2
  unfold f_X1_shown f_X1_showAt
  rw [show (5 : Int32) = nI 5 from rfl, ix (b := 0), gA_n (by omega) (by decide), s2, Option.bind_some, sh_n, gA_n (by omega) (by decide), (hW.1 _ (by omega)).1, show wG W sn r (len r) i s = W (20 + s * 4 + sn (r * 5 + i)) from if_pos hi]
theorem wG_le (hG : wfG signs lengths len sn) (hW : wfW weights start move sho W) {r : Nat} (hr : r < 4) (i s : Nat) (hs : s < 4) : wG W sn r (len r) i s ≤ 21 := by
  unfold wG
  split
  · rename_i h
    have := (hG.2 r i hr h).1
    exact (hW.1 _ (by omega)).2
  · omega
theorem wM_le (hW : wfW weights start move sho W) (f t : Nat) (hf : f < 4) (ht : t < 4) : wM W f t ≤ 21 := (hW.1 _ (by omega)).2
theorem W_le (hW : wfW weights start move sho W) (k : Nat) (hk : k < 36) : W k ≤ 21 := (hW.1 _ hk).2
theorem si_f (hW : wfW weights start move sho W) {X : Nat → Nat} {sums : Nat → Int64} (hX : ∀ s, s < 4 → sums s = lN (X s)) {t : Nat} (ht : t < 4) : f_X1_sumInto (nI t) weights sums = some (lN (X 0 * wM W 0 t + X 1 * wM W 1 t + X 2 * wM W 2 t + X 3 * wM W 3 t)) := by
  have hF := FU_ge
  obtain ⟨b, h1, h2⟩ := loop_inv (fun fu i (b : Int64) => f_X1_sumInto_L5 (nI t) weights sums fu i b) 4 (fun j b => b = lN (sg (fun f => X f * wM W f t) 0 j)) (fun fu b _ => by
    show f_X1_sumInto_L5 _ _ _ (fu + 1) _ _ = _
    rw [f_X1_sumInto_L5.eq_2, if_pos (show (4 : Int32) ≤ nI 4 by decide)]) (fun fu i b hi hb => by
    subst hb
    refine ⟨_, rfl, ?_⟩
    show f_X1_sumInto_L5 _ _ _ (fu + 1) _ _ = f_X1_sumInto_L5 _ _ _ fu _ _
    rw [f_X1_sumInto_L5.eq_2, if_neg (show ¬ (4 : Int32) ≤ nI i from nI_ge (b := 4) hi (by decide)), gA_n hi (by decide), hX i hi]
    unfold f_X1_moveAt
    simp only [Option.bind_some, nm, nI_1]
    have hw := W_le hW (4 + i * 4 + t) (by omega)
    rw [mv_n, gA_n (by omega) (by decide), (hW.1 _ (by omega)).1, nI_l (by omega), lN_mul, lN_add, sg_last]
    rfl) 4 0 FU (lN 0) (by omega) (by omega) rfl
  unfold f_X1_sumInto
  simp only [nm]
  rw [l0, i0, show f_X1_sumInto_L5 (nI t) weights sums FU (nI 0) (lN 0) = _ from h2, h1, sg_s4]
  rfl
theorem tt_14 (hG : wfG signs lengths len sn) (hW : wfW weights start move sho W) {r : Nat} (hr : r < 4) (h0 : 0 < len r) (plc st : Int32) (f : Nat → Int64) : ∃ f', (∀ s, s < 4 → f' s = lN (FD W (wM W) (GG plc st (wG W sn r (len r))) 0 s)) ∧ f_X1_totalThrough_L14 (nI r) plc st weights signs FU (nI 0) f = some (nI 4, f') := by
  have hF := FU_ge
  refine loop_inv (fun fu i (b : Nat → Int64) => f_X1_totalThrough_L14 (nI r) plc st weights signs fu i b) 4 (fun j b => ∀ s, s < j → b s = lN (FD W (wM W) (GG plc st (wG W sn r (len r))) 0 s)) (fun fu b _ => ?_) (fun fu i b hi hb => ?_) 4 0 FU f (by omega) (by omega) (fun s hs => absurd hs (Nat.not_lt_zero s))
  · show f_X1_totalThrough_L14 _ _ _ _ _ (fu + 1) _ _ = _
    rw [f_X1_totalThrough_L14.eq_2, if_pos (show (4 : Int32) ≤ nI 4 by decide)]
  · refine ⟨vp_updL b i (lN (FD W (wM W) (GG plc st (wG W sn r (len r))) 0 i)), fun s hs => ?_, ?_⟩
    · rw [updL_eq]
      by_cases q : s = i
      · rw [if_pos q, q]
      · rw [if_neg q]; exact hb s (by omega)
    · show f_X1_totalThrough_L14 _ _ _ _ _ (fu + 1) _ _ = f_X1_totalThrough_L14 _ _ _ _ _ fu _ _
      rw [f_X1_totalThrough_L14.eq_2, if_neg (show ¬ (4 : Int32) ≤ nI i from nI_ge (b := 4) hi (by decide))]
      simp only [nm, nI_1, gA_n (show i < 36 by omega) (show 36 < 2 ^ 31 by decide), (hW.1 i (by omega)).1]
      have e0 := shown_f hG hW hr h0 hi
      rw [show (nI 0) = (0 : Int32) from rfl] at e0
      have hw := W_le hW i (by omega)
      have hg := wG_le hG hW hr 0 i hi
      simp only [e0, Option.bind_some, nI_l (show W i < 2 ^ 31 by omega), nI_l (show wG W sn r (len r) 0 i < 2 ^ 31 by omega), lN_mul, sL_n hi (show 4 < 2 ^ 31 by decide)]
      show _ = f_X1_totalThrough_L14 _ _ _ _ _ fu _ (vp_updL b i (lN (W i * GG plc st (wG W sn r (len r)) 0 i)))
      unfold GG
      rw [show nI 0 = (0 : Int32) from rfl]
      by_cases c1 : plc = 0
      · rw [if_pos c1]
        by_cases c2 : nI i = st
        · rw [if_pos c2, if_neg (fun q => q.2 c2)]
        · rw [if_neg c2, if_pos ⟨c1, c2⟩, Nat.mul_zero]
          rfl
      · rw [if_neg c1, if_neg (fun q => c1 q.1)]
theorem tt_82 (hG : wfG signs lengths len sn) (hW : wfW weights start move sho W) {r i : Nat} (hr : r < 4) (hi1 : i + 1 < len r) (plc st : Int32) {sums : Nat → Int64} (hs : ∀ s, s < 4 → sums s = lN (FD W (wM W) (GG plc st (wG W sn r (len r))) i s)) (f : Nat → Int64) : ∃ f', (∀ s, s < 4 → f' s = lN (FD W (wM W) (GG plc st (wG W sn r (len r))) (i + 1) s)) ∧ f_X1_totalThrough_L82 (nI (i + 1)) (nI r) plc st weights signs sums FU (nI 0) f = some (nI 4, f') := by
  have hF := FU_ge
  refine loop_inv (fun fu j (b : Nat → Int64) => f_X1_totalThrough_L82 (nI (i + 1)) (nI r) plc st weights signs sums fu j b) 4 (fun j b => ∀ s, s < j → b s = lN (FD W (wM W) (GG plc st (wG W sn r (len r))) (i + 1) s)) (fun fu b _ => ?_) (fun fu j b hj hb => ?_) 4 0 FU f (by omega) (by omega) (fun s hs => absurd hs (Nat.not_lt_zero s))
  · show f_X1_totalThrough_L82 _ _ _ _ _ _ _ (fu + 1) _ _ = _
    rw [f_X1_totalThrough_L82.eq_2, if_pos (show (4 : Int32) ≤ nI 4 by decide)]
  · refine ⟨vp_updL b j (lN (FD W (wM W) (GG plc st (wG W sn r (len r))) (i + 1) j)), fun s hs => ?_, ?_⟩
    · rw [updL_eq]
      by_cases q : s = j
      · rw [if_pos q, q]
      · rw [if_neg q]; exact hb s (by omega)
    · show f_X1_totalThrough_L82 _ _ _ _ _ _ _ (fu + 1) _ _ = f_X1_totalThrough_L82 _ _ _ _ _ _ _ fu _ _
      have hg := wG_le hG hW hr (i + 1) j hj
      rw [f_X1_totalThrough_L82.eq_2, if_neg (show ¬ (4 : Int32) ≤ nI j from nI_ge (b := 4) hj (by decide))]
      simp only [nm, nI_1, si_f hW hs hj, shown_f hG hW hr hi1 hj, Option.bind_some, nI_l (show wG W sn r (len r) (i + 1) j < 2 ^ 31 by omega), lN_mul, sL_n hj (show 4 < 2 ^ 31 by decide)]
      simp only [FD]
      unfold GG
      by_cases c1 : plc = nI (i + 1)
      · rw [if_pos c1]
        by_cases c2 : nI j = st
        · rw [if_pos c2, if_neg (show ¬ (plc = nI (i + 1) ∧ ¬ nI j = st) from fun q => q.2 c2)]
        · rw [if_neg c2, if_pos (show plc = nI (i + 1) ∧ ¬ nI j = st from ⟨c1, c2⟩), Nat.mul_zero]
          rfl
      · rw [if_neg c1, if_neg (show ¬ (plc = nI (i + 1) ∧ ¬ nI j = st) from fun q => c1 q.1)]
theorem tt_137 {X : Nat → Nat} {nx : Nat → Int64} (hX : ∀ s, s < 4 → nx s = lN (X s)) (f : Nat → Int64) : ∃ f', (∀ s, s < 4 → f' s = lN (X s)) ∧ f_X1_totalThrough_L137 nx FU (nI 0) f = some (nI 4, f') := by
  have hF := FU_ge
  refine loop_inv (fun fu j (b : Nat → Int64) => f_X1_totalThrough_L137 nx fu j b) 4 (fun j b => ∀ s, s < j → b s = lN (X s)) (fun fu b _ => ?_) (fun fu j b hj hb => ?_) 4 0 FU f (by omega) (by omega) (fun s hs => absurd hs (Nat.not_lt_zero s))
  · show f_X1_totalThrough_L137 _ (fu + 1) _ _ = _
    rw [f_X1_totalThrough_L137.eq_2, if_pos (show (4 : Int32) ≤ nI 4 by decide)]
  · refine ⟨vp_updL b j (lN (X j)), fun s hs => ?_, ?_⟩
    · rw [updL_eq]
      by_cases q : s = j
      · rw [if_pos q, q]
      · rw [if_neg q]; exact hb s (by omega)
    · show f_X1_totalThrough_L137 _ (fu + 1) _ _ = f_X1_totalThrough_L137 _ fu _ _
      rw [f_X1_totalThrough_L137.eq_2, if_neg (show ¬ (4 : Int32) ≤ nI j from nI_ge (b := 4) hj (by decide)), gA_n hj (by decide), sL_n hj (by decide), hX j hj]
      simp only [nm, nI_1]
theorem tt_175 {X : Nat → Nat} {nx : Nat → Int64} (hX : ∀ s, s < 4 → nx s = lN (X s)) : f_X1_totalThrough_L175 nx FU (nI 0) (lN 0) = some (nI 4, lN (s4 X)) := by
  have hF := FU_ge
  obtain ⟨b, h1, h2⟩ := loop_inv (fun fu j (b : Int64) => f_X1_totalThrough_L175 nx fu j b) 4 (fun j b => b = lN (sg X 0 j)) (fun fu b _ => by
    show f_X1_totalThrough_L175 _ (fu + 1) _ _ = _
    rw [f_X1_totalThrough_L175.eq_2, if_pos (show (4 : Int32) ≤ nI 4 by decide)]) (fun fu j b hj hb => by
    subst hb
    refine ⟨_, rfl, ?_⟩
    show f_X1_totalThrough_L175 _ (fu + 1) _ _ = f_X1_totalThrough_L175 _ fu _ _
    rw [f_X1_totalThrough_L175.eq_2, if_neg (show ¬ (4 : Int32) ≤ nI j from nI_ge (b := 4) hj (by decide)), gA_n hj (by decide), hX j hj]
    simp only [nm, nI_1]
    rw [lN_add, sg_last]) 4 0 FU (lN 0) (by omega) (by omega) rfl
  rw [show f_X1_totalThrough_L175 nx FU (nI 0) (lN 0) = _ from h2, h1, sg_s4]
theorem tt_f (hG : wfG signs lengths len sn) (hW : wfW weights start move sho W) {r : Nat} (hr : r < 4) (h0 : 0 < len r) (plc st : Int32) (sums next : Nat → Int64) : ∃ sums' next', f_X1_totalThrough (nI r) plc st weights signs lengths sums next = some (lN (s4 (FD W (wM W) (GG plc st (wG W sn r (len r))) (len r - 1))), sums', next') := by
  have hF := FU_ge
  obtain ⟨k1, k2⟩ := hG.1 r hr
  obtain ⟨f1, p1, p2⟩ := tt_14 hG hW hr h0 plc st sums
  obtain ⟨⟨f2, n2⟩, q1, q2⟩ := loop_inv (fun fu i (b : (Nat → Int64) × (Nat → Int64)) => (f_X1_totalThrough_L68 (nI r) plc st weights signs lengths fu i b.1 b.2)) (len r) (fun i b => 1 ≤ i ∧ ∀ s, s < 4 → b.1 s = lN (FD W (wM W) (GG plc st (wG W sn r (len r))) (i - 1) s)) (fun fu b _ => by
    show f_X1_totalThrough_L68 _ _ _ _ _ _ (fu + 1) _ _ _ = _
    rw [f_X1_totalThrough_L68.eq_2, gA_n hr (by decide), k1, if_pos (nI_le (Nat.le_refl _) (by omega))]) (fun fu i b hi hb => by
    obtain ⟨f, n⟩ := b
    obtain ⟨i, rfl⟩ : ∃ q, i = q + 1 := ⟨i - 1, by omega⟩
    obtain ⟨n', a1, a2⟩ := tt_82 hG hW hr hi plc st (sums := f) hb.2 n
    obtain ⟨f', b1, b2⟩ := tt_137 a1 f
    refine ⟨(f', n'), ⟨by omega, b1⟩, ?_⟩
    show f_X1_totalThrough_L68 _ _ _ _ _ _ (fu + 1) _ f n = f_X1_totalThrough_L68 _ _ _ _ _ _ fu _ f' n'
    rw [f_X1_totalThrough_L68.eq_2, gA_n hr (by decide), k1, if_neg (nI_ge hi (by omega))]
    simp only [nm, nI_1]
    rw [i0, a2, Option.bind_some]
    simp only
    rw [b2]
    rfl) (len r - 1) 1 FU (f1, next) (by omega) (by omega) ⟨Nat.le_refl 1, p1⟩
  refine ⟨f2, n2, ?_⟩
  unfold f_X1_totalThrough
  rw [gA_n hr (by decide), k1, if_neg (nI_ne0 h0 (by omega))]
  simp only [nm]
  rw [i0, p2, Option.bind_some]
  simp only
  have q2 : f_X1_totalThrough_L68 (nI r) plc st weights signs lengths FU (nI 1) f1 next = some (nI (len r), f2, n2) := q2
  rw [i1, q2, Option.bind_some]
  simp only
  rw [l0, tt_175 q1.2]
  rfl
theorem tt_0 (hG : wfG signs lengths len sn) {r : Nat} (hr : r < 4) (h0 : len r = 0) (plc st : Int32) (sums next : Nat → Int64) : f_X1_totalThrough (nI r) plc st weights signs lengths sums next = some (0, sums, next) := by
  obtain ⟨k1, k2⟩ := hG.1 r hr
  unfold f_X1_totalThrough
  rw [gA_n hr (by decide), k1, h0, if_pos (show nI 0 = 0 from rfl)]
/-- the sums of the reference -/
theorem sm_f (hG : wfG signs lengths len sn) (hW : wfW weights start move sho W) {r : Nat} (hr : r < 4) (h0 : 0 < len r) (plc st : Int32) (v : Nat → Nat) (hv : plc = (-1) ∧ (∀ p, v p = PW W (wM W) (wG W sn r (len r)) (len r) p) ∨ ∃ a b, plc = nI a ∧ st = nI b ∧ a < len r ∧ b < 4 ∧ ∀ p, v p = if p / 4 ^ (len r - 1 - a) % 4 = b then PW W (wM W) (wG W sn r (len r)) (len r) p else 0) : f_X6_sum (nI r) plc st start move sho signs lengths = some (lN (sg v 0 (4 ^ len r))) := by
  have hF := FU_ge
  obtain ⟨k1, k2⟩ := hG.1 r hr
  have h4 : 4 ^ len r ≤ 4 ^ 5 := Nat.pow_le_pow_right (by decide) k2
  obtain ⟨b, h1, h2⟩ := loop_inv (fun fu j (b : Int64) => f_X6_sum_L6 (nI r) plc st start move sho signs lengths fu j b) (4 ^ len r) (fun j b => b = lN (sg v 0 j)) (fun fu b _ => by
    show f_X6_sum_L6 _ _ _ _ _ _ _ _ (fu + 1) _ _ = _
    rw [f_X6_sum_L6.eq_2, pa_f hr k1 k2 h0, Option.bind_some, if_pos (nI_le (Nat.le_refl _) (by omega))]) (fun fu j b hj hb => by
    subst hb
    refine ⟨_, rfl, ?_⟩
    show f_X6_sum_L6 _ _ _ _ _ _ _ _ (fu + 1) _ _ = f_X6_sum_L6 _ _ _ _ _ _ _ _ fu _ _
    rw [f_X6_sum_L6.eq_2, pa_f hr k1 k2 h0, Option.bind_some, if_neg (nI_ge hj (by omega)), wp_f hG hW hr (by omega), sg_last]
    simp only [nm, nI_1, Option.bind_some]
    rcases hv with ⟨e1, e2⟩ | ⟨a, b, rfl, rfl, ha, hb, e2⟩
    · rw [if_pos e1, e2, lN_add]
    · rw [if_neg (nI_nm1 (by omega)), so_f hr k1 k2 ha (by omega), Option.bind_some, e2]
      by_cases c : j / 4 ^ (len r - 1 - a) % 4 = b
      · rw [if_pos (by rw [c]), if_pos c, lN_add]
      · rw [if_neg (fun q => c ((nI_eq (by omega) (by omega)).mp q)), if_neg c, l0, lN_add]) (4 ^ len r) 0 FU (lN 0) (by omega) (by omega) rfl
  unfold f_X6_sum
  simp only [nm]
  rw [l0, i0, show f_X6_sum_L6 (nI r) plc st start move sho signs lengths FU (nI 0) (lN 0) = _ from h2, h1]
  rfl
theorem sm_0 (hG : wfG signs lengths len sn) {r : Nat} (hr : r < 4) (h0 : len r = 0) (plc st : Int32) : f_X6_sum (nI r) plc st start move sho signs lengths = some 0 := by
  have hF := FU_ge
  obtain ⟨k1, k2⟩ := hG.1 r hr
  rw [h0] at k1
  obtain ⟨q, hq⟩ : ∃ q, FU = q + 1 := ⟨FU - 1, by omega⟩
  unfold f_X6_sum
  simp only [nm]
  rw [hq, f_X6_sum_L6.eq_2, pa_0 hr k1, Option.bind_some, if_pos (show nI 0 ≤ (0 : Int32) by decide)]
  rfl
theorem FD_congr (S : Nat → Nat) (M : Nat → Nat → Nat) {G G' : Nat → Nat → Nat} : ∀ (k s : Nat), s < 4 → (∀ i, i ≤ k → ∀ s, s < 4 → G i s = G' i s) → FD S M G k s = FD S M G' k s := by
  intro k
  induction k with
  | zero => intro s hs h; show S s * G 0 s = S s * G' 0 s; rw [h 0 (Nat.le_refl 0) s hs]
  | succ k ih =>
    intro s hs h
    have h2 : ∀ i, i ≤ k → ∀ s, s < 4 → G i s = G' i s := fun i hi => h i (by omega)
    simp only [FD]
    rw [ih 0 (by decide) h2, ih 1 (by decide) h2, ih 2 (by decide) h2, ih 3 (by decide) h2, h (k + 1) (Nat.le_refl _) s hs]
theorem s4_congr {g f : Nat → Nat} (h : ∀ s, s < 4 → g s = f s) : s4 g = s4 f := by
  unfold s4
  rw [h 0 (by decide), h 1 (by decide), h 2 (by decide), h 3 (by decide)]
def TOT (W sn : Nat → Nat) (r n : Nat) : Nat := sg (PW W (wM W) (wG W sn r n) n) 0 (4 ^ n)
def TOA (W sn : Nat → Nat) (r n a b : Nat) : Nat := sg (PW W (wM W) (only a b (wG W sn r n)) n) 0 (4 ^ n)
theorem TOT_le (hG : wfG signs lengths len sn) (hW : wfW weights start move sho W) {r : Nat} (hr : r < 4) : TOT W sn r (len r) ≤ 1024 * 441 ^ 5 := by
  have k2 := (hG.1 r hr).2
  have h1 := sg_le (g := PW W (wM W) (wG W sn r (len r)) (len r)) (b := 441 ^ 5) (4 ^ len r) 0 (fun q _ _ => Nat.le_trans (PW_le W (wM W) (wG W sn r (len r)) (b := 21) (fun s hs => W_le hW s (by omega)) (fun s t hs ht => wM_le hW s t hs ht) (fun i s hs => wG_le hG hW hr i s hs) (len r) q) (Nat.pow_le_pow_right (by decide) k2))
  exact Nat.le_trans h1 (Nat.mul_le_mul_right _ (Nat.pow_le_pow_right (by decide) k2))
theorem TOA_le (W sn : Nat → Nat) (r n a b : Nat) (ha : a < n) : TOA W sn r n a b ≤ TOT W sn r n := by
  refine sg_mono _ _ (fun p _ _ => ?_)
  rw [PW_only W (wM W) (wG W sn r n) a b n p ha]
  split
  · exact Nat.le_refl _
  · exact Nat.zero_le _
theorem total1 (hG : wfG signs lengths len sn) (hW : wfW weights start move sho W) {r : Nat} (hr : r < 4) (h0 : 0 < len r) (st : Int32) (sums next : Nat → Int64) : ∃ sums' next', f_X1_totalThrough (nI r) (-1) st weights signs lengths sums next = some (lN (TOT W sn r (len r)), sums', next') := by
  have k2 := (hG.1 r hr).2
  obtain ⟨s', n', e⟩ := tt_f hG hW hr h0 (-1) st sums next
  refine ⟨s', n', ?_⟩
  rw [e]
  have h1 : s4 (FD W (wM W) (GG (-1) st (wG W sn r (len r))) (len r - 1)) = TOT W sn r (len r) := by
    have h2 := PW_total W (wM W) (wG W sn r (len r)) (len r - 1)
    rw [show len r - 1 + 1 = len r by omega] at h2
    unfold TOT
    rw [h2]
    exact s4_congr (fun s hs => FD_congr W (wM W) _ _ hs (fun i hi s hs => if_neg (fun q => nI_nm1 (show i < 2 ^ 31 by omega) q.1.symm)))
  rw [h1]
theorem total6 (hG : wfG signs lengths len sn) (hW : wfW weights start move sho W) {r : Nat} (hr : r < 4) (h0 : 0 < len r) (st : Int32) : f_X6_sum (nI r) (-1) st start move sho signs lengths = some (lN (TOT W sn r (len r))) := sm_f hG hW hr h0 (-1) st _ (Or.inl ⟨rfl, fun _ => rfl⟩)
theorem at1 (hG : wfG signs lengths len sn) (hW : wfW weights start move sho W) {r a b : Nat} (hr : r < 4) (ha : a < len r) (hb : b < 4) (sums next : Nat → Int64) : ∃ sums' next', f_X1_totalThrough (nI r) (nI a) (nI b) weights signs lengths sums next = some (lN (TOA W sn r (len r) a b), sums', next') := by
  have k2 := (hG.1 r hr).2
  obtain ⟨s', n', e⟩ := tt_f hG hW hr (by omega) (nI a) (nI b) sums next
  refine ⟨s', n', ?_⟩
  rw [e]
  have h1 : s4 (FD W (wM W) (GG (nI a) (nI b) (wG W sn r (len r))) (len r - 1)) = TOA W sn r (len r) a b := by
    have h2 := PW_total W (wM W) (only a b (wG W sn r (len r))) (len r - 1)
    rw [show len r - 1 + 1 = len r by omega] at h2
    unfold TOA
    rw [h2]
    refine s4_congr (fun s hs => FD_congr W (wM W) _ _ hs (fun i hi s hs => ?_))
    unfold GG only
    have q1 : (nI a = nI i) ↔ i = a := by rw [nI_eq (by omega) (by omega)]; exact eq_comm
    have q2 : (nI s = nI b) ↔ s = b := nI_eq (by omega) (by omega)
    simp only [q1, q2]
  rw [h1]
theorem at6 (hG : wfG signs lengths len sn) (hW : wfW weights start move sho W) {r a b : Nat} (hr : r < 4) (ha : a < len r) (hb : b < 4) : f_X6_sum (nI r) (nI a) (nI b) start move sho signs lengths = some (lN (TOA W sn r (len r) a b)) := sm_f hG hW hr (by omega) (nI a) (nI b) _ (Or.inr ⟨a, b, rfl, rfl, ha, hb, fun p => PW_only W (wM W) (wG W sn r (len r)) a b (len r) p ha⟩)
end T2
theorem st_total (i1 : Int32) {weights1 signs1 lengths1 start6 move6 show6 signs6 many6 : Nat → Int32} (hI : INVs weights1 signs1 lengths1 start6 move6 show6 signs6 many6) (thrown6 : Int32) (sums1 nextSums1 : Nat → Int64) :
    ∃ r sums1' nextSums1', f_X5_total i1 weights1 signs1 lengths1 sums1 nextSums1 = some (r, sums1', nextSums1') ∧ f_X6_total i1 thrown6 start6 move6 show6 signs6 many6 = some (r, 0) := by
  obtain ⟨rfl, rfl, len, sn, W, hG, hW⟩ := hI
  unfold f_X5_total f_X6_total f_X1_totalOf
  simp only [nm, isRow1, within6, Option.bind_some]
  rcases wb_d i1 3 (m := 3) rfl with c1 | ⟨c1, x, hx, rfl⟩
  · rw [if_pos c1, if_pos c1]; exact ⟨_, _, _, rfl, rfl⟩
  · rw [c1, if_neg b10, if_neg b10]
    rcases Nat.eq_zero_or_pos (len x) with h0 | h0
    · rw [tt_0 hG (by omega) h0, sm_0 hG (by omega) h0]
      exact ⟨_, _, _, rfl, rfl⟩
    · obtain ⟨s', n', e⟩ := total1 hG hW (show x < 4 by omega) h0 (-1) sums1 nextSums1
      rw [e, total6 hG hW (by omega) h0]
      exact ⟨_, _, _, rfl, rfl⟩
/-- a place of a row of signs -/
theorem place_d {lengths : Nat → Int32} {r n : Nat} (hr : r < 4) (hl : lengths r = nI n) (hn : n ≤ 5) (i : Int32) : f_X1_hasPlace (nI r) i lengths = some 0 ∧ wb i 0 (nI n - 1) = 0 ∨ f_X1_hasPlace (nI r) i lengths = some 1 ∧ wb i 0 (nI n - 1) = 1 ∧ ∃ a, a < n ∧ i = nI a := by
  unfold f_X1_hasPlace
  rw [gA_n hr (by decide), hl]
  by_cases h : i < 0
  · rw [if_pos h, wb_neg h]; exact Or.inl ⟨rfl, rfl⟩
  · rw [if_neg h]
    obtain ⟨a, ha, rfl⟩ := nI_of h
    by_cases h2 : n ≤ a
    · rw [if_pos (nI_le h2 ha)]
      refine Or.inl ⟨rfl, ?_⟩
      unfold wb
      rw [if_neg h]
      rcases Nat.eq_zero_or_pos n with q | q
      · subst q
        rw [if_pos]
        have e1 := nI_toInt ha
        exact Int32.lt_iff_toInt_lt.mpr (by rw [e1, show (nI 0 - 1 : Int32).toInt = -1 from rfl]; omega)
      · obtain ⟨m, rfl⟩ : ∃ m, n = m + 1 := ⟨n - 1, by omega⟩
        rw [nI_pred, if_pos (nI_lt (by omega) ha)]
    · rw [if_neg (nI_ge (by omega) (by omega))]
      obtain ⟨m, rfl⟩ : ∃ m, n = m + 1 := ⟨n - 1, by omega⟩
      rw [nI_pred]
      exact Or.inr ⟨rfl, wb_i rfl (by omega) (by omega), a, by omega, rfl⟩
theorem st_at (i1 i2 i3 i4 : Int32) {weights1 signs1 lengths1 start6 move6 show6 signs6 many6 : Nat → Int32} (hI : INVs weights1 signs1 lengths1 start6 move6 show6 signs6 many6) (thrown6 : Int32) (sums1 nextSums1 : Nat → Int64) :
    ∃ o b th sums1' nextSums1', f_X5_at i1 i2 i3 i4 weights1 signs1 lengths1 sums1 nextSums1 = some (o, sums1', nextSums1') ∧ f_X6_at i1 i2 i3 i4 thrown6 start6 move6 show6 signs6 many6 = some (b, th) ∧ (o = none ∧ th = 1 ∨ o = some b ∧ th = 0) := by
  obtain ⟨rfl, rfl, len, sn, W, hG, hW⟩ := hI
  unfold f_X5_at f_X6_at f_X1_totalOf
  simp only [nm, isRow1, isState1, isSide5, within6, Option.bind_some]
  rcases wb_d i1 3 (m := 3) rfl with c1 | ⟨c1, x, hx, rfl⟩
  · rw [if_pos c1, if_pos c1]; exact ⟨_, _, _, _, _, rfl, rfl, Or.inr ⟨rfl, rfl⟩⟩
  · rw [c1, if_neg b10, if_neg b10]
    obtain ⟨k1, k2⟩ := hG.1 x (by omega)
    rw [gA_n (show x < 4 by omega) (by decide), k1]
    rcases place_d (show x < 4 by omega) k1 k2 i2 with ⟨p1, p2⟩ | ⟨p1, p2, a, ha, rfl⟩
    · rw [p1, Option.bind_some, if_pos rfl, if_pos p2]; exact ⟨_, _, _, _, _, rfl, rfl, Or.inr ⟨rfl, rfl⟩⟩
    · rw [p1, Option.bind_some, if_neg b10, p2, if_neg b10]
      rcases wb_d i3 3 (m := 3) rfl with c3 | ⟨c3, b, hb, rfl⟩
      · rw [if_pos c3, if_pos c3]; exact ⟨_, _, _, _, _, rfl, rfl, Or.inr ⟨rfl, rfl⟩⟩
      · rw [c3, if_neg b10, if_neg b10]
        by_cases c4 : wb i4 0 1 = 0
        · rw [if_pos c4, if_pos c4]; exact ⟨_, _, _, _, _, rfl, rfl, Or.inr ⟨rfl, rfl⟩⟩
        · rw [if_neg c4, if_neg c4]
          have hT := TOT_le hG hW (show x < 4 by omega)
          have hA := TOA_le W sn x (len x) a b ha
          obtain ⟨s', n', e⟩ := total1 hG hW (show x < 4 by omega) (by omega) (-1) sums1 nextSums1
          rw [e, total6 hG hW (by omega) (by omega)]
          simp only [Option.bind_some]
          rcases Nat.eq_zero_or_pos (TOT W sn x (len x)) with q | q
          · rw [q, if_pos (show lg_cmp (lN 0) 0 = 0 from (c_eq _ _).mpr rfl), if_pos (show lg_cmp (lN 0) 0 = 0 from (c_eq _ _).mpr rfl)]
            exact ⟨_, _, _, _, _, rfl, rfl, Or.inl ⟨rfl, rfl⟩⟩
          · have hne : ¬ lg_cmp (lN (TOT W sn x (len x))) 0 = 0 := by
              rw [c_eq, l0, pk_lEQ (by omega) (by decide)]
              omega
            rw [if_neg hne, if_neg hne, at6 hG hW (by omega) ha (by omega)]
            obtain ⟨s2, n2, e2⟩ := at1 hG hW (show x < 4 by omega) ha (show b < 4 by omega) s' n'
            rw [e2]
            simp only [Option.bind_some]
            rw [side0 (by omega) q (by omega), side6 (by omega) q (by omega)]
            exact ⟨_, _, _, _, _, rfl, rfl, Or.inr ⟨rfl, rfl⟩⟩
