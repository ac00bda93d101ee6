/-! PURE: rows that have words, counted by pairs -/
set_option maxRecDepth 100000 in
theorem bit_or : ∀ X, X < 256 → ∀ w, w < 8 → (nI X ||| ((1 : Int32) <<< (nI w &&& 31))) = nI (X ||| 2 ^ w) := by decide +kernel
set_option maxRecDepth 100000 in
theorem bit_lt : ∀ X, X < 256 → ∀ w, w < 8 → (X ||| 2 ^ w) < 256 := by decide +kernel
set_option maxRecDepth 100000 in
theorem bit_up : ∀ X, X < 256 → ∀ w, w < 8 → ∀ v, v < 8 → (X ||| 2 ^ w) / 2 ^ v % 2 = if v = w then 1 else X / 2 ^ v % 2 := by decide +kernel
set_option maxRecDepth 100000 in
theorem bit_at : ∀ X, X < 256 → ∀ w, w < 8 → ((nI X >>> (nI w &&& 31)) &&& 1) = nI (X / 2 ^ w % 2) := by decide +kernel
/-- 1, if row k has word w -/
def hz (len wd : Nat → Nat) (k w : Nat) : Nat := if 0 < cw wd k w 0 (len k) then 1 else 0
theorem hz_le (len wd : Nat → Nat) (k w : Nat) : hz len wd k w ≤ 1 := by unfold hz; split <;> omega
def SUP (n : Nat) (len wd : Nat → Nat) (a b : Nat) : Nat := sg (fun k => hz len wd k a * hz len wd k b) 0 n
theorem SUP_le {n : Nat} (len wd : Nat → Nat) (a b : Nat) : SUP n len wd a b ≤ n := by
  have := sg_le (g := fun k => hz len wd k a * hz len wd k b) (b := 1) n 0 (fun k _ _ => by
    have h1 := hz_le len wd k a
    have h2 := hz_le len wd k b
    exact Nat.mul_le_mul h1 h2)
  unfold SUP
  omega
theorem SUP_self {n : Nat} (len wd : Nat → Nat) (a : Nat) : SUP n len wd a a = sg (fun k => hz len wd k a) 0 n := by
  refine sg_congr _ _ (fun k _ _ => ?_)
  unfold hz
  split <;> rfl
theorem SUP_sub {n : Nat} (len wd : Nat → Nat) (a b : Nat) : SUP n len wd a b ≤ SUP n len wd a a := by
  refine sg_mono _ _ (fun k _ _ => ?_)
  have h1 := hz_le len wd k b
  unfold hz at *
  split
  · split <;> omega
  · omega
section U0
variable {labels guesses lengths words : Nat → Int32} {n : Nat} {len wd : Nat → Nat}
theorem has_L (h : wfR labels guesses lengths words n len wd) {k w : Nat} (hk : k < n) (hw : w < 8) : ∀ (m j fu : Nat), j + m = len k → m < fu → ∃ z, f_X6_has_L5 (nI k) (nI w) lengths words fu (nI j) 0 = some (z, nI (if 0 < cw wd k w j m then 1 else 0)) := by
  obtain ⟨hn, -, -, hlen, hwd⟩ := id h
  obtain ⟨k1, k2⟩ := hlen k hk
  intro m
  induction m with
  | zero =>
    intro j fu hj hfu
    obtain ⟨fu, rfl⟩ : ∃ q, fu = q + 1 := ⟨fu - 1, by omega⟩
    refine ⟨nI j, ?_⟩
    rw [f_X6_has_L5.eq_2, gA_n (by omega) (by decide), k1, if_pos (nI_le (by omega) (by omega)), if_neg (show ¬ 0 < cw wd k w j 0 from Nat.lt_irrefl 0)]
    rfl
  | succ m ih =>
    intro j fu hj hfu
    obtain ⟨fu, rfl⟩ : ∃ q, fu = q + 1 := ⟨fu - 1, by omega⟩
    obtain ⟨w1, w2⟩ := hwd k j hk (by omega)
    rw [f_X6_has_L5.eq_2, gA_n (by omega) (by decide), k1, if_neg (nI_ge (by omega) (by omega)), if_pos rfl, show (6 : Int32) = nI 6 from rfl, ix6, gA_n (by omega) (by decide), w2]
    simp only [nm, nI_1]
    have e : cw wd k w j (m + 1) = (if wd (k * 6 + j) = w then 1 else 0) + cw wd k w (j + 1) m := rfl
    rw [e]
    by_cases c : wd (k * 6 + j) = w
    · rw [if_pos (by rw [c]), if_pos c, if_pos (by omega)]
      obtain ⟨fu, rfl⟩ : ∃ q, fu = q + 1 := ⟨fu - 1, by omega⟩
      rw [f_X6_has_L5.eq_2, gA_n (by omega) (by decide), k1]
      by_cases c2 : nI (len k) ≤ nI (j + 1)
      · rw [if_pos c2]; exact ⟨_, rfl⟩
      · rw [if_neg c2, if_neg b10]; exact ⟨_, rfl⟩
    · rw [if_neg (fun q => c ((nI_eq (by omega) (by omega)).mp q)), if_neg c, Nat.zero_add]
      exact ih (j + 1) fu (by omega) (by omega)
theorem has6 (h : wfR labels guesses lengths words n len wd) {k w : Nat} (hk : k < n) (hw : w < 8) : f_X6_has (nI k) (nI w) lengths words = some (nI (hz len wd k w)) := by
  have hF := FU_ge
  have k2 := (h.2.2.2.1 k hk).2
  obtain ⟨z, e⟩ := has_L h hk hw (len k) 0 FU (by omega) (by omega)
  unfold f_X6_has
  simp only [nm]
  rw [show (0 : Int32) = nI 0 from rfl] at e ⊢
  rw [e, Option.bind_some]
  show bz (nI (hz len wd k w)) _ = _
  refine bz_p ?_
  unfold hz
  split
  · exact Or.inr rfl
  · exact Or.inl rfl
theorem sup6 (h : wfR labels guesses lengths words n len wd) {a b : Nat} (ha : a < 8) (hb : b < 8) : f_X6_support (nI a) (nI b) (nI n) lengths words = some (nI (SUP n len wd a b)) := by
  have hF := FU_ge
  have hn := h.1
  obtain ⟨x, h1, h2⟩ := loop_inv (fun fu j (x : Int32) => f_X6_support_L5 (nI a) (nI b) (nI n) lengths words fu j x) n (fun j x => x = nI (sg (fun k => hz len wd k a * hz len wd k b) 0 j)) (fun fu x _ => by
    show f_X6_support_L5 _ _ _ _ _ (fu + 1) _ _ = _
    rw [f_X6_support_L5.eq_2, if_pos (nI_le (Nat.le_refl _) (by omega))]) (fun fu j x hj hx => by
    subst hx
    refine ⟨_, rfl, ?_⟩
    show f_X6_support_L5 _ _ _ _ _ (fu + 1) _ _ = f_X6_support_L5 _ _ _ _ _ fu _ _
    rw [f_X6_support_L5.eq_2, if_neg (nI_ge hj (by omega)), has6 h hj ha, Option.bind_some, has6 h hj hb, Option.bind_some, sg_last]
    simp only [nm, nI_1]
    have e1 := hz_le len wd j a
    have e2 := hz_le len wd j b
    by_cases c1 : hz len wd j a = 0
    · rw [c1, if_pos (show nI 0 = 0 from rfl), Nat.zero_mul, i0, nI_add]
    · have c1 : hz len wd j a = 1 := by omega
      rw [c1, if_neg (show ¬ nI 1 = 0 by decide)]
      by_cases c2 : hz len wd j b = 0
      · rw [c2, if_pos (show nI 0 = 0 from rfl), Nat.mul_zero, i0, nI_add]
      · have c2 : hz len wd j b = 1 := by omega
        rw [c2, if_neg (show ¬ nI 1 = 0 by decide)]) n 0 FU (nI 0) (by omega) (by omega) rfl
  unfold f_X6_support
  simp only [nm]
  rw [i0, show f_X6_support_L5 (nI a) (nI b) (nI n) lengths words FU (nI 0) (nI 0) = _ from h2, h1]
  rfl
/-- the words of a row, as bits -/
theorem ws_f (h : wfR labels guesses lengths words n len wd) {k : Nat} (hk : k < n) : ∃ X, X < 256 ∧ (∀ w, w < 8 → X / 2 ^ w % 2 = hz len wd k w) ∧ f_X2_wordSet (nI k) lengths words = some (nI X) := by
  have hF := FU_ge
  obtain ⟨hn, -, -, hlen, hwd⟩ := id h
  obtain ⟨k1, k2⟩ := hlen k hk
  obtain ⟨x, ⟨X, h0, h1, h2⟩, h3⟩ := loop_inv (fun fu j (x : Int32) => f_X2_wordSet_L4 (nI k) lengths words fu j x) (len k) (fun j x => ∃ X, X < 256 ∧ x = nI X ∧ ∀ w, w < 8 → X / 2 ^ w % 2 = if 0 < cw wd k w 0 j then 1 else 0) (fun fu x _ => by
    show f_X2_wordSet_L4 _ _ _ (fu + 1) _ _ = _
    rw [f_X2_wordSet_L4.eq_2, gA_n (by omega) (by decide), k1, if_pos (nI_le (Nat.le_refl _) (by omega))]) (fun fu j x hj hx => by
    obtain ⟨X, x1, rfl, x2⟩ := hx
    obtain ⟨w1, w2⟩ := hwd k j hk hj
    refine ⟨nI (X ||| 2 ^ wd (k * 6 + j)), ⟨_, bit_lt X x1 _ w1, rfl, fun w hw => ?_⟩, ?_⟩
    · rw [bit_up X x1 _ w1 w hw, x2 w hw]
      have e : cw wd k w 0 (j + 1) = cw wd k w 0 j + if wd (k * 6 + j) = w then 1 else 0 := sg_last j
      rw [e]
      by_cases c : w = wd (k * 6 + j)
      · rw [if_pos c, if_pos c.symm, if_pos (by omega)]
      · rw [if_neg c, if_neg (show ¬ wd (k * 6 + j) = w from fun q => c q.symm), Nat.add_zero]
    · show f_X2_wordSet_L4 _ _ _ (fu + 1) _ _ = f_X2_wordSet_L4 _ _ _ fu _ _
      rw [f_X2_wordSet_L4.eq_2, gA_n (by omega) (by decide), k1, if_neg (nI_ge hj (by omega)), show (6 : Int32) = nI 6 from rfl, ix (b := 0), gA_n (by omega) (by decide), w2]
      simp only [nm, nI_1]
      rw [bit_or X x1 _ w1]) (len k) 0 FU (nI 0) (by omega) (by omega) ⟨0, by decide, rfl, fun w hw => by
      rw [Nat.zero_div, if_neg (show ¬ 0 < cw wd k w 0 0 from Nat.lt_irrefl 0)]⟩
  refine ⟨X, h0, h2, ?_⟩
  unfold f_X2_wordSet
  simp only [nm]
  rw [i0, show f_X2_wordSet_L4 (nI k) lengths words FU (nI 0) (nI 0) = _ from h3, h1]
  rfl
end U0
theorem cp8_f {X a : Nat} (hX : X < 256) (ha : a < 8) {T : Nat → Nat → Nat} {f : Nat → Int32} (hT : ∀ x, x < 8 → ∀ y, y < 8 → f (x * 8 + y) = nI (T x y)) : ∃ f', f_X4_countPairs (nI a) (nI X) f = some f' ∧ ∀ x, x < 8 → ∀ y, y < 8 → f' (x * 8 + y) = nI (T x y + if x = a ∧ ¬ y = a then X / 2 ^ y % 2 else 0) := by
  have hF := FU_ge
  obtain ⟨f', h1, h2⟩ := loop_inv (fun fu j (f : Nat → Int32) => f_X4_countPairs_L2 (nI a) (nI X) fu j f) 8 (fun j f => ∀ x, x < 8 → ∀ y, y < 8 → f (x * 8 + y) = nI (T x y + if x = a ∧ ¬ y = a ∧ y < j then X / 2 ^ y % 2 else 0)) (fun fu x _ => by
    show f_X4_countPairs_L2 _ _ (fu + 1) _ _ = _
    rw [f_X4_countPairs_L2.eq_2, if_pos (show (8 : Int32) ≤ nI 8 by decide)]) (fun fu j f hj hf => by
    show ∃ b' : Nat → Int32, _ ∧ f_X4_countPairs_L2 _ _ (fu + 1) _ f = f_X4_countPairs_L2 _ _ fu _ b'
    rw [f_X4_countPairs_L2.eq_2, if_neg (show ¬ (8 : Int32) ≤ nI j from nI_ge (b := 8) hj (by decide)), bit_at X hX j hj]
    simp only [nm, nI_1]
    have same : (j = a ∨ X / 2 ^ j % 2 = 0) → ∀ x, x < 8 → ∀ y, y < 8 → f (x * 8 + y) = nI (T x y + if x = a ∧ ¬ y = a ∧ y < j + 1 then X / 2 ^ y % 2 else 0) := by
      intro q x hx y hy
      rw [hf x hx y hy]
      congr 2
      by_cases c : y = j
      · rw [if_neg (by omega)]
        rcases q with q | q
        · rw [if_neg (by omega)]
        · rw [c, q]; split <;> rfl
      · by_cases c2 : x = a ∧ ¬ y = a ∧ y < j
        · rw [if_pos c2, if_pos (by omega)]
        · rw [if_neg c2, if_neg (by omega)]
    by_cases c1 : j = a
    · rw [if_pos (by rw [c1])]
      exact ⟨f, same (Or.inl c1), rfl⟩
    · rw [if_neg (fun q => c1 ((nI_eq (by omega) (by omega)).mp q))]
      have h01 : X / 2 ^ j % 2 < 2 := Nat.mod_lt _ (by decide)
      by_cases c2 : X / 2 ^ j % 2 = 0
      · rw [if_pos (by rw [c2]; rfl)]
        exact ⟨f, same (Or.inr c2), rfl⟩
      · have c3 : X / 2 ^ j % 2 = 1 := by omega
        rw [if_neg (show ¬ nI (X / 2 ^ j % 2) = 0 by rw [c3]; decide), show (8 : Int32) = nI 8 from rfl, ix (b := 0), gA_n (by omega) (by decide), sI_n (by omega) (by decide)]
        refine ⟨_, fun x hx y hy => ?_, rfl⟩
        rw [upd_eq]
        by_cases q : x * 8 + y = a * 8 + j
        · have q1 : x = a := by omega
          have q2 : y = j := by omega
          subst q1 q2
          rw [if_pos rfl, hf x hx y hy, nI_1, if_neg (by omega), if_pos ⟨rfl, c1, by omega⟩, c3]
        · rw [if_neg q, hf x hx y hy]
          congr 2
          by_cases c2 : x = a ∧ ¬ y = a ∧ y < j
          · rw [if_pos c2, if_pos (by omega)]
          · rw [if_neg c2, if_neg (by omega)]) 8 0 FU f (by omega) (by omega) (fun x hx y hy => by rw [hT x hx y hy, if_neg (by omega), Nat.add_zero])
  refine ⟨f', ?_, fun x hx y hy => ?_⟩
  · unfold f_X4_countPairs
    simp only [nm]
    rw [i0, show f_X4_countPairs_L2 (nI a) (nI X) FU (nI 0) f = _ from h2]
    rfl
  · rw [h1 x hx y hy]
    congr 2
    by_cases c : x = a ∧ ¬ y = a
    · rw [if_pos c, if_pos ⟨c.1, c.2, hy⟩]
    · rw [if_neg c, if_neg (fun q => c ⟨q.1, q.2.1⟩)]
theorem cs8_f {X : Nat} (hX : X < 256) {T : Nat → Nat → Nat} {H : Nat → Nat} {f g : Nat → Int32} (hT : ∀ x, x < 8 → ∀ y, y < 8 → f (x * 8 + y) = nI (T x y)) (hH : ∀ x, x < 8 → g x = nI (H x)) : ∃ f' g', f_X4_countSet (nI X) f g = some (f', g') ∧ (∀ x, x < 8 → ∀ y, y < 8 → f' (x * 8 + y) = nI (T x y + if y = x then 0 else X / 2 ^ x % 2 * (X / 2 ^ y % 2))) ∧ ∀ x, x < 8 → g' x = nI (H x + X / 2 ^ x % 2) := by
  have hF := FU_ge
  obtain ⟨⟨f', g'⟩, ⟨h1, h2⟩, h3⟩ := loop_inv (fun fu j (b : (Nat → Int32) × (Nat → Int32)) => f_X4_countSet_L2 (nI X) fu j b.1 b.2) 8 (fun j b => (∀ x, x < 8 → ∀ y, y < 8 → b.1 (x * 8 + y) = nI (T x y + if x < j ∧ ¬ y = x then X / 2 ^ x % 2 * (X / 2 ^ y % 2) else 0)) ∧ ∀ x, x < 8 → b.2 x = nI (H x + if x < j then X / 2 ^ x % 2 else 0)) (fun fu x _ => by
    show f_X4_countSet_L2 _ (fu + 1) _ _ _ = _
    rw [f_X4_countSet_L2.eq_2, if_pos (show (8 : Int32) ≤ nI 8 by decide)]) (fun fu j b hj hb => by
    obtain ⟨f, g⟩ := b
    obtain ⟨b1, b2⟩ := hb
    have b1 : ∀ x, x < 8 → ∀ y, y < 8 → f (x * 8 + y) = nI (T x y + if x < j ∧ ¬ y = x then X / 2 ^ x % 2 * (X / 2 ^ y % 2) else 0) := b1
    have b2 : ∀ x, x < 8 → g x = nI (H x + if x < j then X / 2 ^ x % 2 else 0) := b2
    show ∃ b' : (Nat → Int32) × (Nat → Int32), _ ∧ f_X4_countSet_L2 _ (fu + 1) _ f g = f_X4_countSet_L2 _ fu _ b'.1 b'.2
    rw [f_X4_countSet_L2.eq_2, if_neg (show ¬ (8 : Int32) ≤ nI j from nI_ge (b := 8) hj (by decide)), bit_at X hX j hj]
    simp only [nm, nI_1]
    have h01 : X / 2 ^ j % 2 < 2 := Nat.mod_lt _ (by decide)
    by_cases c2 : X / 2 ^ j % 2 = 0
    · rw [if_pos (by rw [c2]; rfl)]
      refine ⟨(f, g), ⟨fun x hx y hy => ?_, fun x hx => ?_⟩, rfl⟩
      · show f (x * 8 + y) = _
        rw [b1 x hx y hy]
        congr 2
        by_cases c : x = j
        · rw [if_neg (by omega), c, c2, Nat.zero_mul]; split <;> rfl
        · by_cases c3 : x < j ∧ ¬ y = x
          · rw [if_pos c3, if_pos (by omega)]
          · rw [if_neg c3, if_neg (by omega)]
      · show g x = _
        rw [b2 x hx]
        congr 2
        by_cases c : x = j
        · rw [if_neg (by omega), if_pos (by omega), c, c2]
        · by_cases c3 : x < j
          · rw [if_pos c3, if_pos (by omega)]
          · rw [if_neg c3, if_neg (by omega)]
    · have c3 : X / 2 ^ j % 2 = 1 := by omega
      obtain ⟨f2, e1, e2⟩ := cp8_f hX hj b1
      rw [if_neg (show ¬ nI (X / 2 ^ j % 2) = 0 by rw [c3]; decide), gA_n hj (by decide), sI_n hj (by decide), e1, Option.bind_some]
      refine ⟨(f2, upd g j (g j + 1)), ⟨fun x hx y hy => ?_, fun x hx => ?_⟩, rfl⟩
      · show f2 (x * 8 + y) = _
        rw [e2 x hx y hy, Nat.add_assoc]
        congr 2
        by_cases c : x = j
        · subst c
          rw [if_neg (by omega), Nat.zero_add, c3, Nat.one_mul]
          by_cases c4 : y = x
          · rw [if_neg (by omega), if_neg (by omega)]
          · rw [if_pos ⟨rfl, c4⟩, if_pos ⟨by omega, c4⟩]
        · rw [if_neg (show ¬ (x = j ∧ ¬ y = j) from fun q => c q.1), Nat.add_zero]
          by_cases c4 : x < j ∧ ¬ y = x
          · rw [if_pos c4, if_pos (by omega)]
          · rw [if_neg c4, if_neg (by omega)]
      · show upd g j (g j + 1) x = _
        rw [upd_eq]
        by_cases c : x = j
        · subst c
          rw [if_pos rfl, b2 x hx, nI_1, if_neg (by omega), if_pos (by omega), c3]
        · rw [if_neg c, b2 x hx]
          congr 2
          by_cases c4 : x < j
          · rw [if_pos c4, if_pos (by omega)]
          · rw [if_neg c4, if_neg (by omega)]) 8 0 FU (f, g) (by omega) (by omega) ⟨fun x hx y hy => by
            show f (x * 8 + y) = _
            rw [hT x hx y hy, if_neg (by omega), Nat.add_zero], fun x hx => by
            show g x = _
            rw [hH x hx, if_neg (by omega), Nat.add_zero]⟩
  refine ⟨f', g', ?_, fun x hx y hy => ?_, fun x hx => ?_⟩
  · unfold f_X4_countSet
    simp only [nm]
    rw [i0, show f_X4_countSet_L2 (nI X) FU (nI 0) f g = _ from h3]
    rfl
  · rw [show f' (x * 8 + y) = _ from h1 x hx y hy]
    congr 2
    by_cases c : y = x
    · rw [if_pos c, if_neg (by omega)]
    · rw [if_neg c, if_pos ⟨hx, c⟩]
  · rw [show g' x = _ from h2 x hx, if_pos hx]
/-- the pairs counted over all rows -/
theorem ga18_f {labels guesses lengths words : Nat → Int32} {n : Nat} {len wd : Nat → Nat} (h : wfR labels guesses lengths words n len wd) {f g : Nat → Int32} (hf : ∀ x, x < 64 → f x = nI 0) (hg : ∀ x, x < 8 → g x = nI 0) : ∃ f' g', f_X4_gather_L18 lengths words (nI n) FU (nI 0) f g = some (nI n, f', g') ∧ (∀ x, x < 8 → ∀ y, y < 8 → f' (x * 8 + y) = nI (if y = x then 0 else SUP n len wd x y)) ∧ ∀ x, x < 8 → g' x = nI (SUP n len wd x x) := by
  have hF := FU_ge
  have hn := h.1
  obtain ⟨⟨f', g'⟩, ⟨h1, h2⟩, h3⟩ := loop_inv (fun fu j (b : (Nat → Int32) × (Nat → Int32)) => f_X4_gather_L18 lengths words (nI n) fu j b.1 b.2) n (fun j b => (∀ x, x < 8 → ∀ y, y < 8 → b.1 (x * 8 + y) = nI (if y = x then 0 else SUP j len wd x y)) ∧ ∀ x, x < 8 → b.2 x = nI (sg (fun k => hz len wd k x) 0 j)) (fun fu x _ => by
    show f_X4_gather_L18 _ _ _ (fu + 1) _ _ _ = _
    rw [f_X4_gather_L18.eq_2]
    unfold f_X2_size
    rw [Option.bind_some, if_pos (nI_le (Nat.le_refl _) (by omega))]) (fun fu j b hj hb => by
    obtain ⟨f, g⟩ := b
    obtain ⟨X, x1, x2, x3⟩ := ws_f h hj
    obtain ⟨f2, g2, e1, e2, e3⟩ := cs8_f x1 hb.1 hb.2
    refine ⟨(f2, g2), ⟨fun x hx y hy => ?_, fun x hx => ?_⟩, ?_⟩
    · show f2 (x * 8 + y) = _
      rw [e2 x hx y hy, x2 x hx, x2 y hy]
      congr 1
      by_cases c : y = x
      · rw [if_pos c, if_pos c, if_pos c]
      · rw [if_neg c, if_neg c, if_neg c]
        unfold SUP
        rw [sg_last]
    · show g2 x = _
      rw [e3 x hx, x2 x hx, sg_last]
    · show f_X4_gather_L18 _ _ _ (fu + 1) _ f g = f_X4_gather_L18 _ _ _ fu _ f2 g2
      rw [f_X4_gather_L18.eq_2]
      unfold f_X2_size
      rw [Option.bind_some, if_neg (nI_ge hj (by omega)), x3, Option.bind_some, show f_X4_countSet (nI X) f g = _ from e1, Option.bind_some]
      simp only [nm, nI_1]) n 0 FU (f, g) (by omega) (by omega) ⟨fun x hx y hy => by
        show f (x * 8 + y) = _
        rw [hf _ (by omega)]
        congr 1
        split <;> rfl, fun x hx => hg x hx⟩
  exact ⟨f', g', h3, h1, fun x hx => by rw [SUP_self]; exact h2 x hx⟩
