/-! PURE: rules in order -/
section V0
-- SC: support of a pair, 0 if it is none; HV: rows that have a word
variable (SC HV : Nat → Nat)
def KEY (p : Nat) : Nat := ((64 - SC p) * 64 + HV (p / 8)) * 64 + p
def isR (p : Nat) : Nat := if 0 < SC p then 1 else 0
def ahd (p q : Nat) : Nat := if 0 < SC q ∧ KEY SC HV q < KEY SC HV p then 1 else 0
/-- how many of the first j are ahead of p -/
def RK (j p : Nat) : Nat := sg (ahd SC HV p) 0 j
def CN (j : Nat) : Nat := sg (isR SC) 0 j
theorem KEY_mod {p : Nat} (hp : p < 64) : KEY SC HV p % 64 = p := by
  unfold KEY
  rw [Nat.mul_comm, Nat.mul_add_mod, Nat.mod_eq_of_lt hp]
theorem KEY_inj {p q : Nat} (hp : p < 64) (hq : q < 64) (h : KEY SC HV p = KEY SC HV q) : p = q := by
  rw [← KEY_mod SC HV hp, h, KEY_mod SC HV hq]
theorem KEY_le {p : Nat} (hp : p < 64) (hH : ∀ w, w < 8 → HV w ≤ 40) : KEY SC HV p < 300000 := by
  have := hH (p / 8) (by omega)
  unfold KEY
  omega
theorem KEY_lt {p q : Nat} (hp : p < 64) (hq : q < 64) (hS : ∀ p, p < 64 → SC p ≤ 40) (hH : ∀ w, w < 8 → HV w ≤ 40) : KEY SC HV q < KEY SC HV p ↔ SC p < SC q ∨ SC q = SC p ∧ (HV (q / 8) < HV (p / 8) ∨ HV (q / 8) = HV (p / 8) ∧ q < p) := by
  have h1 := hS p hp
  have h2 := hS q hq
  have h3 := hH (p / 8) (by omega)
  have h4 := hH (q / 8) (by omega)
  unfold KEY
  generalize HV (q / 8) = x at *
  generalize HV (p / 8) = y at *
  omega
/-- keys that stand in order -/
def ordK (j c : Nat) (pi : Nat → Nat) (keys : Nat → Int32) : Prop := c = CN SC j ∧ (∀ i, i < c → pi i < j ∧ 0 < SC (pi i) ∧ keys i = nI (KEY SC HV (pi i)) ∧ RK SC HV j (pi i) = i) ∧ (∀ i k, i < k → k < c → KEY SC HV (pi i) < KEY SC HV (pi k)) ∧ ∀ p, p < j → 0 < SC p → ∃ i, i < c ∧ pi i = p
theorem in_15 {K c : Nat} {KK : Nat → Nat} {f : Nat → Int32} (hc : c < 56) (hK : K < 2 ^ 31) (hKK : ∀ i, i < c → f i = nI (KK i) ∧ KK i < 2 ^ 31) : ∀ (y fu : Nat) (ks : Nat → Int32), y ≤ c → y < fu → (∀ i, i < y → ks i = f i) → (∀ i, y < i → i ≤ c → ks i = f (i - 1)) → (∀ i, y ≤ i → i < c → K < KK i) →
    ∃ z ks', f_X4_insert_L15 (nI K) fu (nI y) ks = some (nI z, ks') ∧ z ≤ c ∧ (∀ i, i < z → ks' i = f i) ∧ (∀ i, z < i → i ≤ c → ks' i = f (i - 1)) ∧ (∀ i, z ≤ i → i < c → K < KK i) ∧ (z = 0 ∨ KK (z - 1) ≤ K) := by
  intro y
  induction y with
  | zero =>
    intro fu ks hy hfu h1 h2 h3
    obtain ⟨fu, rfl⟩ : ∃ q, fu = q + 1 := ⟨fu - 1, by omega⟩
    refine ⟨0, ks, ?_, hy, h1, h2, h3, Or.inl rfl⟩
    rw [f_X4_insert_L15.eq_2, if_pos (show nI 0 ≤ (0 : Int32) by decide)]
  | succ y ih =>
    intro fu ks hy hfu h1 h2 h3
    obtain ⟨fu, rfl⟩ : ∃ q, fu = q + 1 := ⟨fu - 1, by omega⟩
    obtain ⟨k1, k2⟩ := hKK y (by omega)
    rw [f_X4_insert_L15.eq_2, if_neg (nI_nle (by omega) (by omega)), nI_pred, gA_n (by omega) (by decide), h1 y (by omega), k1]
    by_cases c1 : KK y ≤ K
    · rw [if_pos (nI_le c1 hK)]
      exact ⟨y + 1, ks, rfl, hy, h1, h2, h3, Or.inr c1⟩
    · rw [if_neg (nI_ge (by omega) k2), gA_n (by omega) (by decide), h1 y (by omega), k1, sI_n (by omega) (by decide)]
      simp only [nm, pk_m1]
      refine ih fu _ (by omega) (by omega) (fun i hi => ?_) (fun i hi hic => ?_) (fun i hi hic => ?_)
      · rw [upd_eq, if_neg (by omega)]; exact h1 i (by omega)
      · rw [upd_eq]
        by_cases q : i = y + 1
        · rw [if_pos q, q, show y + 1 - 1 = y by omega, k1]
        · rw [if_neg q]; exact h2 i (by omega) hic
      · by_cases q : i = y
        · rw [q]; omega
        · exact h3 i (by omega) hic
theorem RK_s (j p : Nat) : RK SC HV (j + 1) p = RK SC HV j p + ahd SC HV p j := sg_last j
theorem ord_skip {j c : Nat} {pi : Nat → Nat} {keys : Nat → Int32} (h : ordK SC HV j c pi keys) (hj : SC j = 0) : ordK SC HV (j + 1) c pi keys := by
  obtain ⟨h1, h2, h3, h4⟩ := h
  refine ⟨?_, fun i hi => ?_, h3, fun p hp hs => ?_⟩
  · unfold CN
    rw [sg_last, show isR SC j = 0 from if_neg (by omega), Nat.add_zero]
    exact h1
  · obtain ⟨a, b, d, e⟩ := h2 i hi
    refine ⟨by omega, b, d, ?_⟩
    rw [RK_s, show ahd SC HV (pi i) j = 0 from if_neg (fun q => by omega), Nat.add_zero]
    exact e
  · by_cases q : p = j
    · subst q; omega
    · exact h4 p (by omega) hs
theorem ord_put {j c : Nat} {pi : Nat → Nat} {keys : Nat → Int32} (h : ordK SC HV j c pi keys) (hj64 : j < 64) (hj : 0 < SC j) (hc : c < 56) (hH : ∀ w, w < 8 → HV w ≤ 40) : ∃ pi' keys', f_X4_insert (nI (KEY SC HV j)) keys (nI c) = some (keys', nI (c + 1)) ∧ ordK SC HV (j + 1) (c + 1) pi' keys' := by
  have hF := FU_ge
  obtain ⟨h1, h2, h3, h4⟩ := h
  have hK := KEY_le SC HV hj64 hH
  obtain ⟨z, ks, e1, e2, e3, e4, e5, e6⟩ := in_15 (K := KEY SC HV j) (c := c) (KK := fun i => KEY SC HV (pi i)) (f := keys) hc (by omega) (fun i hi => ⟨(h2 i hi).2.2.1, by have := KEY_le SC HV (p := pi i) (by have := (h2 i hi).1; omega) hH; omega⟩) c FU keys (Nat.le_refl c) (by omega) (fun i hi => rfl) (fun i h1 h2 => by omega) (fun i h1 h2 => by omega)
  have below : ∀ i, i < z → KEY SC HV (pi i) < KEY SC HV j := by
    intro i hi
    have hz : KEY SC HV (pi (z - 1)) < KEY SC HV j := by
      have e6 : KEY SC HV (pi (z - 1)) ≤ KEY SC HV j := Or.elim e6 (fun q => by omega) id
      have hne : ¬ KEY SC HV (pi (z - 1)) = KEY SC HV j := fun q => by
        have hp := (h2 (z - 1) (by omega)).1
        have := KEY_inj SC HV (show pi (z - 1) < 64 by omega) hj64 q
        omega
      omega
    by_cases q : i = z - 1
    · rw [q]; exact hz
    · have := h3 i (z - 1) (by omega) (by omega); omega
  have above : ∀ i, z ≤ i → i < c → KEY SC HV j < KEY SC HV (pi i) := e5
  have cnt : RK SC HV j j = z := by
    rcases Nat.eq_zero_or_pos z with z0 | z0
    · have : RK SC HV j j = sg (fun _ => 0) 0 j := sg_congr _ _ (fun q _ hq => if_neg (fun x => by
        obtain ⟨i, i1, i2⟩ := h4 q (by omega) x.1
        have := above i (by omega) i1
        rw [i2] at this
        omega))
      rw [this, sg_zero, z0]
    · have hp := h2 (z - 1) (by omega)
      have : RK SC HV j j = sg (fun q => ahd SC HV (pi (z - 1)) q + if pi (z - 1) = q then 1 else 0) 0 j := sg_congr _ _ (fun q _ hq => by
        unfold ahd
        by_cases hs : 0 < SC q
        · obtain ⟨i, i1, i2⟩ := h4 q (by omega) hs
          by_cases c1 : i < z
          · have hb := below i c1
            rw [i2] at hb
            rw [if_pos ⟨hs, hb⟩]
            by_cases c2 : i = z - 1
            · rw [← c2, i2, if_neg (by omega), if_pos rfl]
            · have := h3 i (z - 1) (by omega) (by omega)
              rw [i2] at this
              rw [if_pos ⟨hs, this⟩, if_neg (fun x => by rw [x] at this; omega)]
          · have hb := above i (by omega) i1
            rw [i2] at hb
            have hb2 := below (z - 1) (by omega)
            rw [if_neg (by omega), if_neg (by omega), if_neg (fun x => by rw [x] at hb2; omega)]
        · rw [if_neg (fun x => hs x.1), if_neg (fun x => hs x.1), if_neg (fun x => hs (by rw [← x]; exact hp.2.1))])
      rw [this, sg_add, sg_one _ _ (Nat.zero_le _) (by omega)]
      have := hp.2.2.2
      unfold RK at this
      omega
  refine ⟨fun i => if i < z then pi i else if i = z then j else pi (i - 1), upd ks z (nI (KEY SC HV j)), ?_, ?_, fun i hi => ?_, fun i k hik hk => ?_, fun p hp hs => ?_⟩
  · unfold f_X4_insert
    rw [if_pos (show nI c < 56 from nI_lt (b := 56) hc (by decide))]
    simp only [nm]
    rw [e1, Option.bind_some]
    simp only
    rw [sI_n (by omega) (by decide), nI_1]
  · unfold CN
    rw [sg_last, show isR SC j = 1 from if_pos hj]
    show c + 1 = CN SC j + 1
    omega
  · rw [upd_eq]
    by_cases c1 : i < z
    · obtain ⟨a, b, d, e⟩ := h2 i (by omega)
      simp only [if_pos c1]
      rw [if_neg (show ¬ i = z by omega), e3 i c1, RK_s, e, show ahd SC HV (pi i) j = 0 from if_neg (fun x => by have := below i c1; omega)]
      exact ⟨by omega, b, d, rfl⟩
    · simp only [if_neg c1]
      by_cases c2 : i = z
      · simp only [if_pos c2]
        rw [RK_s, cnt, show ahd SC HV j j = 0 from if_neg (fun x => by omega)]
        exact ⟨by omega, hj, trivial, c2.symm⟩
      · simp only [if_neg c2]
        obtain ⟨a, b, d, e⟩ := h2 (i - 1) (by omega)
        rw [e4 i (by omega) (by omega), RK_s, e, show ahd SC HV (pi (i - 1)) j = 1 from if_pos ⟨hj, above (i - 1) (by omega) (by omega)⟩]
        exact ⟨by omega, b, d, by omega⟩
  · show KEY SC HV (if i < z then pi i else if i = z then j else pi (i - 1)) < KEY SC HV (if k < z then pi k else if k = z then j else pi (k - 1))
    by_cases c1 : i < z
    · rw [if_pos c1]
      have hb := below i c1
      by_cases c2 : k < z
      · rw [if_pos c2]; exact h3 i k hik (by omega)
      · rw [if_neg c2]
        by_cases c3 : k = z
        · rw [if_pos c3]; exact hb
        · rw [if_neg c3]
          have := above (k - 1) (by omega) (by omega)
          omega
    · rw [if_neg c1, if_neg (show ¬ k < z by omega), if_neg (show ¬ k = z by omega)]
      by_cases c2 : i = z
      · rw [if_pos c2]; exact above (k - 1) (by omega) (by omega)
      · rw [if_neg c2]; exact h3 (i - 1) (k - 1) (by omega) (by omega)
  · by_cases q : p = j
    · refine ⟨z, by omega, ?_⟩
      show (if z < z then pi z else if z = z then j else pi (z - 1)) = p
      rw [if_neg (Nat.lt_irrefl z), if_pos rfl, q]
    · obtain ⟨i, i1, i2⟩ := h4 p (by omega) hs
      by_cases c1 : i < z
      · refine ⟨i, by omega, ?_⟩
        show (if i < z then pi i else _) = p
        rw [if_pos c1, i2]
      · refine ⟨i + 1, by omega, ?_⟩
        show (if i + 1 < z then pi (i + 1) else if i + 1 = z then j else pi (i + 1 - 1)) = p
        rw [if_neg (by omega), if_neg (by omega), show i + 1 - 1 = i by omega, i2]
end V0
theorem off_le : ∀ p, p < 64 → ¬ p / 8 = p % 8 → sg (fun q => if q / 8 = q % 8 then 0 else 1) 0 p < 56 := by decide
theorem ga48_f {SC HV : Nat → Nat} {sup hav : Nat → Int32} (hS : ∀ p, p < 64 → sup p = nI (SC p) ∧ SC p ≤ 40) (hd : ∀ p, p < 64 → p / 8 = p % 8 → SC p = 0) (hH : ∀ w, w < 8 → hav w = nI (HV w) ∧ HV w ≤ 40) (keys : Nat → Int32) : ∃ pi keys', f_X4_gather_L48 sup hav FU (nI 0) keys (nI 0) = some (nI 64, keys', nI (CN SC 64)) ∧ ordK SC HV 64 (CN SC 64) pi keys' := by
  have hF := FU_ge
  obtain ⟨⟨keys', ct⟩, ⟨c, pi, h1, h2⟩, h3⟩ := loop_inv (fun fu j (b : (Nat → Int32) × Int32) => f_X4_gather_L48 sup hav fu j b.1 b.2) 64 (fun j b => ∃ c pi, b.2 = nI c ∧ ordK SC HV j c pi b.1) (fun fu x _ => by
    show f_X4_gather_L48 _ _ (fu + 1) _ _ _ = _
    rw [f_X4_gather_L48.eq_2, if_pos (show (64 : Int32) ≤ nI 64 by decide)]) (fun fu j b hj hb => by
    obtain ⟨ks, ct⟩ := b
    obtain ⟨c, pi, rfl, h2⟩ := hb
    have h2 : ordK SC HV j c pi ks := h2
    obtain ⟨s1, s2⟩ := hS j hj
    show ∃ b' : (Nat → Int32) × Int32, _ ∧ f_X4_gather_L48 _ _ (fu + 1) _ ks (nI c) = f_X4_gather_L48 _ _ fu _ b'.1 b'.2
    rw [f_X4_gather_L48.eq_2, if_neg (show ¬ (64 : Int32) ≤ nI j from nI_ge (b := 64) hj (by decide)), gA_n hj (by decide), s1]
    simp only [nm, nI_1]
    rcases Nat.eq_zero_or_pos (SC j) with q | q
    · rw [q, if_pos (show nI 0 ≤ (0 : Int32) by decide)]
      exact ⟨(ks, nI c), ⟨c, pi, rfl, ord_skip SC HV h2 q⟩, rfl⟩
    · have hc : c < 56 := by
        have e1 : c ≤ sg (fun q => if q / 8 = q % 8 then 0 else 1) 0 j := by
          rw [h2.1]
          refine sg_mono _ _ (fun p _ hp => ?_)
          unfold isR
          by_cases e : p / 8 = p % 8
          · rw [if_neg (by rw [hd p (by omega) e]; omega), if_pos e]; exact Nat.le_refl 0
          · rw [if_neg e]; split <;> omega
        have e2 := off_le j hj (fun e => by rw [hd j hj e] at q; omega)
        omega
      obtain ⟨pi', ks', p1, p2⟩ := ord_put SC HV h2 hj q hc (fun w hw => (hH w hw).2)
      obtain ⟨v1, v2⟩ := hH (j / 8) (by omega)
      have ek : f_X4_keyOf (nI j) sup hav = some (nI (KEY SC HV j)) := by
        unfold f_X4_keyOf dz
        simp only [nm]
        rw [gA_n hj (by decide), s1, if_neg (show ¬ (8 : Int32) = 0 by decide), show (8 : Int32) = nI 8 from rfl, pk_div (by omega) (by decide) (by decide), gA_n (by omega) (by decide), v1]
        rw [show (64 : Int32) = nI 64 from rfl, pk_sub (by omega), pk_mul, nI_add, pk_mul, nI_add]
        rfl
      rw [if_neg (nI_nle q (by omega)), ek, Option.bind_some, p1, Option.bind_some]
      exact ⟨(ks', nI (c + 1)), ⟨c + 1, pi', rfl, p2⟩, rfl⟩) 64 0 FU (keys, nI 0) (by omega) (by omega) ⟨0, fun i => i, rfl, rfl, fun i hi => absurd hi (Nat.not_lt_zero i), fun i k _ hk => absurd hk (Nat.not_lt_zero k), fun p hp => absurd hp (Nat.not_lt_zero p)⟩
  have h1 : ct = nI c := h1
  have h2 : ordK SC HV 64 c pi keys' := h2
  have h3 : f_X4_gather_L48 sup hav FU (nI 0) keys (nI 0) = some (nI 64, keys', ct) := h3
  have hc : CN SC 64 = c := h2.1.symm
  rw [hc]
  exact ⟨pi, keys', by rw [h3, h1], h2⟩
